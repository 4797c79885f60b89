theorem cy_332 : (List.range 8).all (fun i => chZ (i + 332)) = true := by decide +kernel
theorem cy_340 : (List.range 4).all (fun i => chZ (i + 340)) = true := by decide +kernel
