theorem cy_220 : (List.range 22).all (fun i => chZ (i + 220)) = true := by decide +kernel
theorem cy_242 : (List.range 22).all (fun i => chZ (i + 242)) = true := by decide +kernel
