theorem cy_236 : (List.range 8).all (fun i => chZ (i + 236)) = true := by decide +kernel
theorem cy_244 : (List.range 8).all (fun i => chZ (i + 244)) = true := by decide +kernel
