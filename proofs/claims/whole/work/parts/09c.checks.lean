theorem cy_86 : (List.range 43).all (fun i => chZ (i + 86)) = true := by decide +kernel
theorem cy_129 : (List.range 43).all (fun i => chZ (i + 129)) = true := by decide +kernel
