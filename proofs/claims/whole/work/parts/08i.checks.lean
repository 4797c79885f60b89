theorem cl_1400 : (List.range 40).all (fun i => chLw (i + 1400)) = true := by decide +kernel
theorem cl_1440 : (List.range 40).all (fun i => chLw (i + 1440)) = true := by decide +kernel
theorem cl_1480 : (List.range 40).all (fun i => chLw (i + 1480)) = true := by decide +kernel
theorem cl_1520 : (List.range 40).all (fun i => chLw (i + 1520)) = true := by decide +kernel
theorem cl_1560 : (List.range 40).all (fun i => chLw (i + 1560)) = true := by decide +kernel
