theorem cy_0 : (List.range 43).all (fun i => chZ (i + 0)) = true := by decide +kernel
theorem cy_43 : (List.range 43).all (fun i => chZ (i + 43)) = true := by decide +kernel
