theorem cl_200 : (List.range 40).all (fun i => chLw (i + 200)) = true := by decide +kernel
theorem cl_240 : (List.range 40).all (fun i => chLw (i + 240)) = true := by decide +kernel
theorem cl_280 : (List.range 40).all (fun i => chLw (i + 280)) = true := by decide +kernel
theorem cl_320 : (List.range 40).all (fun i => chLw (i + 320)) = true := by decide +kernel
theorem cl_360 : (List.range 40).all (fun i => chLw (i + 360)) = true := by decide +kernel
