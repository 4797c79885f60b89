theorem cy_172 : (List.range 43).all (fun i => chZ (i + 172)) = true := by decide +kernel
theorem cy_215 : (List.range 43).all (fun i => chZ (i + 215)) = true := by decide +kernel
