theorem cy_258 : (List.range 43).all (fun i => chZ (i + 258)) = true := by decide +kernel
theorem cy_301 : (List.range 43).all (fun i => chZ (i + 301)) = true := by decide +kernel
