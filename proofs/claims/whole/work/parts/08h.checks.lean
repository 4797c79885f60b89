theorem cl_1200 : (List.range 40).all (fun i => chLw (i + 1200)) = true := by decide +kernel
theorem cl_1240 : (List.range 40).all (fun i => chLw (i + 1240)) = true := by decide +kernel
theorem cl_1280 : (List.range 40).all (fun i => chLw (i + 1280)) = true := by decide +kernel
theorem cl_1320 : (List.range 40).all (fun i => chLw (i + 1320)) = true := by decide +kernel
theorem cl_1360 : (List.range 40).all (fun i => chLw (i + 1360)) = true := by decide +kernel
