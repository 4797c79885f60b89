theorem cy_316 : (List.range 8).all (fun i => chZ (i + 316)) = true := by decide +kernel
theorem cy_324 : (List.range 8).all (fun i => chZ (i + 324)) = true := by decide +kernel
