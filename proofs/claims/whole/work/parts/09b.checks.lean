theorem cy_0 : (List.range 22).all (fun i => chZ (i + 0)) = true := by decide +kernel
theorem cy_22 : (List.range 22).all (fun i => chZ (i + 22)) = true := by decide +kernel
