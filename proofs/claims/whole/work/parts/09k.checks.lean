theorem cy_284 : (List.range 8).all (fun i => chZ (i + 284)) = true := by decide +kernel
theorem cy_292 : (List.range 8).all (fun i => chZ (i + 292)) = true := by decide +kernel
