theorem cl_600 : (List.range 40).all (fun i => chLw (i + 600)) = true := by decide +kernel
theorem cl_640 : (List.range 40).all (fun i => chLw (i + 640)) = true := by decide +kernel
theorem cl_680 : (List.range 40).all (fun i => chLw (i + 680)) = true := by decide +kernel
theorem cl_720 : (List.range 40).all (fun i => chLw (i + 720)) = true := by decide +kernel
theorem cl_760 : (List.range 40).all (fun i => chLw (i + 760)) = true := by decide +kernel
