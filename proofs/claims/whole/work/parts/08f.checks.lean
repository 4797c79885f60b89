theorem cl_800 : (List.range 40).all (fun i => chLw (i + 800)) = true := by decide +kernel
theorem cl_840 : (List.range 40).all (fun i => chLw (i + 840)) = true := by decide +kernel
theorem cl_880 : (List.range 40).all (fun i => chLw (i + 880)) = true := by decide +kernel
theorem cl_920 : (List.range 40).all (fun i => chLw (i + 920)) = true := by decide +kernel
theorem cl_960 : (List.range 40).all (fun i => chLw (i + 960)) = true := by decide +kernel
