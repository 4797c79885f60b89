theorem cy_220 : (List.range 8).all (fun i => chZ (i + 220)) = true := by decide +kernel
theorem cy_228 : (List.range 8).all (fun i => chZ (i + 228)) = true := by decide +kernel
