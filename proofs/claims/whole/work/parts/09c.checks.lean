theorem cy_44 : (List.range 22).all (fun i => chZ (i + 44)) = true := by decide +kernel
theorem cy_66 : (List.range 22).all (fun i => chZ (i + 66)) = true := by decide +kernel
