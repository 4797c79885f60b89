theorem cy_252 : (List.range 8).all (fun i => chZ (i + 252)) = true := by decide +kernel
theorem cy_260 : (List.range 8).all (fun i => chZ (i + 260)) = true := by decide +kernel
