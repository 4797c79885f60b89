theorem cy_88 : (List.range 22).all (fun i => chZ (i + 88)) = true := by decide +kernel
theorem cy_110 : (List.range 22).all (fun i => chZ (i + 110)) = true := by decide +kernel
