theorem z1 : atT 123 (.initialized (yOf 336).cls) = true := by decide +kernel
theorem z2 : atT 627 (codeW 336) = true := by decide +kernel
theorem z3 : plainName (yOf 336).cls = true := by decide +kernel
theorem z4 : atT 626 (.static (yOf 336)) = true := by decide +kernel
theorem z5 : mhL.getD 336 (0,0,0,0) = (123, 627, 626, 0) := by decide +kernel
theorem z6 : kindOf 336 = 0 := by decide +kernel
theorem z7 : mlOf 336 ≤ 40 := by decide +kernel
theorem z8 : lw_tbl[627]? = some (codeW 336) := by decide +kernel
theorem z9 : goodWord (codeW 336) = true := by decide +kernel
theorem z10 : (exwOf 336).isEmpty = true := by decide +kernel
theorem z11 : retOf 336 = some .int := by decide +kernel
theorem z12 : goodWord (.initialized (yOf 336).cls) = true := by decide +kernel
theorem z13 : lw_tbl[123]? = some (.initialized (yOf 336).cls) := by decide +kernel
