theorem cy_308 : (List.range 22).all (fun i => chZ (i + 308)) = true := by decide +kernel
theorem cy_330 : (List.range 14).all (fun i => chZ (i + 330)) = true := by decide +kernel
