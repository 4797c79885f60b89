theorem cl_0 : (List.range 40).all (fun i => chLw (i + 0)) = true := by decide +kernel
theorem cl_40 : (List.range 40).all (fun i => chLw (i + 40)) = true := by decide +kernel
theorem cl_80 : (List.range 40).all (fun i => chLw (i + 80)) = true := by decide +kernel
theorem cl_120 : (List.range 40).all (fun i => chLw (i + 120)) = true := by decide +kernel
theorem cl_160 : (List.range 40).all (fun i => chLw (i + 160)) = true := by decide +kernel
