theorem cy_264 : (List.range 22).all (fun i => chZ (i + 264)) = true := by decide +kernel
theorem cy_286 : (List.range 22).all (fun i => chZ (i + 286)) = true := by decide +kernel
