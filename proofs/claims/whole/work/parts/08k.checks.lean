theorem cl_1800 : (List.range 40).all (fun i => chLw (i + 1800)) = true := by decide +kernel
theorem cl_1840 : (List.range 40).all (fun i => chLw (i + 1840)) = true := by decide +kernel
theorem cl_1880 : (List.range 23).all (fun i => chLw (i + 1880)) = true := by decide +kernel
