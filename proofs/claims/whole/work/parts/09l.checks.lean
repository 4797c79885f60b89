theorem cy_300 : (List.range 8).all (fun i => chZ (i + 300)) = true := by decide +kernel
theorem cy_308 : (List.range 8).all (fun i => chZ (i + 308)) = true := by decide +kernel
