theorem cy_132 : (List.range 22).all (fun i => chZ (i + 132)) = true := by decide +kernel
theorem cy_154 : (List.range 22).all (fun i => chZ (i + 154)) = true := by decide +kernel
