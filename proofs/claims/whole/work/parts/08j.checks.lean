theorem cl_1600 : (List.range 40).all (fun i => chLw (i + 1600)) = true := by decide +kernel
theorem cl_1640 : (List.range 40).all (fun i => chLw (i + 1640)) = true := by decide +kernel
theorem cl_1680 : (List.range 40).all (fun i => chLw (i + 1680)) = true := by decide +kernel
theorem cl_1720 : (List.range 40).all (fun i => chLw (i + 1720)) = true := by decide +kernel
theorem cl_1760 : (List.range 40).all (fun i => chLw (i + 1760)) = true := by decide +kernel
