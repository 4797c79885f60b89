theorem cl_400 : (List.range 40).all (fun i => chLw (i + 400)) = true := by decide +kernel
theorem cl_440 : (List.range 40).all (fun i => chLw (i + 440)) = true := by decide +kernel
theorem cl_480 : (List.range 40).all (fun i => chLw (i + 480)) = true := by decide +kernel
theorem cl_520 : (List.range 40).all (fun i => chLw (i + 520)) = true := by decide +kernel
theorem cl_560 : (List.range 40).all (fun i => chLw (i + 560)) = true := by decide +kernel
