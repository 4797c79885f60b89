theorem cy_176 : (List.range 22).all (fun i => chZ (i + 176)) = true := by decide +kernel
theorem cy_198 : (List.range 22).all (fun i => chZ (i + 198)) = true := by decide +kernel
