theorem cy_268 : (List.range 8).all (fun i => chZ (i + 268)) = true := by decide +kernel
theorem cy_276 : (List.range 8).all (fun i => chZ (i + 276)) = true := by decide +kernel
