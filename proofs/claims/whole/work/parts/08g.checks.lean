theorem cl_1000 : (List.range 40).all (fun i => chLw (i + 1000)) = true := by decide +kernel
theorem cl_1040 : (List.range 40).all (fun i => chLw (i + 1040)) = true := by decide +kernel
theorem cl_1080 : (List.range 40).all (fun i => chLw (i + 1080)) = true := by decide +kernel
theorem cl_1120 : (List.range 40).all (fun i => chLw (i + 1120)) = true := by decide +kernel
theorem cl_1160 : (List.range 40).all (fun i => chLw (i + 1160)) = true := by decide +kernel
