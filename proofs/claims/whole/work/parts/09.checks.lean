theorem cy_0 : (List.range 43).all (fun i => chY (i + 0)) = true := by decide +kernel
theorem cy_43 : (List.range 43).all (fun i => chY (i + 43)) = true := by decide +kernel
theorem cy_86 : (List.range 43).all (fun i => chY (i + 86)) = true := by decide +kernel
theorem cy_129 : (List.range 43).all (fun i => chY (i + 129)) = true := by decide +kernel
theorem cy_172 : (List.range 43).all (fun i => chY (i + 172)) = true := by decide +kernel
theorem cy_215 : (List.range 43).all (fun i => chY (i + 215)) = true := by decide +kernel
theorem cy_258 : (List.range 43).all (fun i => chY (i + 258)) = true := by decide +kernel
theorem cy_301 : (List.range 43).all (fun i => chY (i + 301)) = true := by decide +kernel
theorem cm_len : codeL.length = 345 := by decide +kernel
theorem cx_0 : (vx_atS RX10 (icOf 0).2 (exN 0) exSup).all (fun w => decide (w ∈ lw_tbl) && (goodWord w || warmW w) && vx_ot w) = true := by decide +kernel
theorem cx_1 : (vx_atS RX10 (icOf 1).2 (exN 1) exSup).all (fun w => decide (w ∈ lw_tbl) && (goodWord w || warmW w) && vx_ot w) = true := by decide +kernel
theorem cx_2 : (vx_atS RX10 (icOf 2).2 (exN 2) exSup).all (fun w => decide (w ∈ lw_tbl) && (goodWord w || warmW w) && vx_ot w) = true := by decide +kernel
theorem cx_l : [0, 1, 2, 3].all (fun a => decide (Cond.classLink RX10 (icOf a).1 (exN a) ∈ lw_tbl) && decide (Cond.initialized (exN a) ∈ lw_tbl) && decide (Cond.castable (exN a) (exN a) ∈ lw_tbl)) = true := by decide +kernel
theorem cc_of {f : Nat → Bool} {a n : Nat} (h : (List.range n).all (fun i => f (i + a)) = true) {m : Nat} (h1 : a ≤ m) (h2 : m < a + n) : f m = true := by
  have h3 := List.all_eq_true.mp h (m - a) (List.mem_range.mpr (by omega))
  have h4 : m - a + a = m := by omega
  rw [h4] at h3
  exact h3
theorem cm_all {m : Nat} (h : m < 344) : chM m = true := by
  rcases Nat.lt_or_ge m 15 with h15 | h15
  · exact cc_of cm_0 (by omega) (by omega)
  rcases Nat.lt_or_ge m 30 with h30 | h30
  · exact cc_of cm_15 (by omega) (by omega)
  rcases Nat.lt_or_ge m 45 with h45 | h45
  · exact cc_of cm_30 (by omega) (by omega)
  rcases Nat.lt_or_ge m 60 with h60 | h60
  · exact cc_of cm_45 (by omega) (by omega)
  rcases Nat.lt_or_ge m 75 with h75 | h75
  · exact cc_of cm_60 (by omega) (by omega)
  rcases Nat.lt_or_ge m 90 with h90 | h90
  · exact cc_of cm_75 (by omega) (by omega)
  rcases Nat.lt_or_ge m 105 with h105 | h105
  · exact cc_of cm_90 (by omega) (by omega)
  rcases Nat.lt_or_ge m 120 with h120 | h120
  · exact cc_of cm_105 (by omega) (by omega)
  rcases Nat.lt_or_ge m 135 with h135 | h135
  · exact cc_of cm_120 (by omega) (by omega)
  rcases Nat.lt_or_ge m 150 with h150 | h150
  · exact cc_of cm_135 (by omega) (by omega)
  rcases Nat.lt_or_ge m 165 with h165 | h165
  · exact cc_of cm_150 (by omega) (by omega)
  rcases Nat.lt_or_ge m 180 with h180 | h180
  · exact cc_of cm_165 (by omega) (by omega)
  rcases Nat.lt_or_ge m 195 with h195 | h195
  · exact cc_of cm_180 (by omega) (by omega)
  rcases Nat.lt_or_ge m 210 with h210 | h210
  · exact cc_of cm_195 (by omega) (by omega)
  rcases Nat.lt_or_ge m 225 with h225 | h225
  · exact cc_of cm_210 (by omega) (by omega)
  rcases Nat.lt_or_ge m 240 with h240 | h240
  · exact cc_of cm_225 (by omega) (by omega)
  rcases Nat.lt_or_ge m 255 with h255 | h255
  · exact cc_of cm_240 (by omega) (by omega)
  rcases Nat.lt_or_ge m 270 with h270 | h270
  · exact cc_of cm_255 (by omega) (by omega)
  rcases Nat.lt_or_ge m 285 with h285 | h285
  · exact cc_of cm_270 (by omega) (by omega)
  rcases Nat.lt_or_ge m 300 with h300 | h300
  · exact cc_of cm_285 (by omega) (by omega)
  rcases Nat.lt_or_ge m 315 with h315 | h315
  · exact cc_of cm_300 (by omega) (by omega)
  rcases Nat.lt_or_ge m 330 with h330 | h330
  · exact cc_of cm_315 (by omega) (by omega)
  rcases Nat.lt_or_ge m 337 with h337 | h337
  · exact cc_of cm_330 (by omega) (by omega)
  rcases Nat.lt_or_ge m 344 with h344 | h344
  · exact cc_of cm_337 (by omega) (by omega)
  omega
theorem cl_all {m : Nat} (h : m < 1903) : chLw m = true := by
  rcases Nat.lt_or_ge m 40 with h40 | h40
  · exact cc_of cl_0 (by omega) (by omega)
  rcases Nat.lt_or_ge m 80 with h80 | h80
  · exact cc_of cl_40 (by omega) (by omega)
  rcases Nat.lt_or_ge m 120 with h120 | h120
  · exact cc_of cl_80 (by omega) (by omega)
  rcases Nat.lt_or_ge m 160 with h160 | h160
  · exact cc_of cl_120 (by omega) (by omega)
  rcases Nat.lt_or_ge m 200 with h200 | h200
  · exact cc_of cl_160 (by omega) (by omega)
  rcases Nat.lt_or_ge m 240 with h240 | h240
  · exact cc_of cl_200 (by omega) (by omega)
  rcases Nat.lt_or_ge m 280 with h280 | h280
  · exact cc_of cl_240 (by omega) (by omega)
  rcases Nat.lt_or_ge m 320 with h320 | h320
  · exact cc_of cl_280 (by omega) (by omega)
  rcases Nat.lt_or_ge m 360 with h360 | h360
  · exact cc_of cl_320 (by omega) (by omega)
  rcases Nat.lt_or_ge m 400 with h400 | h400
  · exact cc_of cl_360 (by omega) (by omega)
  rcases Nat.lt_or_ge m 440 with h440 | h440
  · exact cc_of cl_400 (by omega) (by omega)
  rcases Nat.lt_or_ge m 480 with h480 | h480
  · exact cc_of cl_440 (by omega) (by omega)
  rcases Nat.lt_or_ge m 520 with h520 | h520
  · exact cc_of cl_480 (by omega) (by omega)
  rcases Nat.lt_or_ge m 560 with h560 | h560
  · exact cc_of cl_520 (by omega) (by omega)
  rcases Nat.lt_or_ge m 600 with h600 | h600
  · exact cc_of cl_560 (by omega) (by omega)
  rcases Nat.lt_or_ge m 640 with h640 | h640
  · exact cc_of cl_600 (by omega) (by omega)
  rcases Nat.lt_or_ge m 680 with h680 | h680
  · exact cc_of cl_640 (by omega) (by omega)
  rcases Nat.lt_or_ge m 720 with h720 | h720
  · exact cc_of cl_680 (by omega) (by omega)
  rcases Nat.lt_or_ge m 760 with h760 | h760
  · exact cc_of cl_720 (by omega) (by omega)
  rcases Nat.lt_or_ge m 800 with h800 | h800
  · exact cc_of cl_760 (by omega) (by omega)
  rcases Nat.lt_or_ge m 840 with h840 | h840
  · exact cc_of cl_800 (by omega) (by omega)
  rcases Nat.lt_or_ge m 880 with h880 | h880
  · exact cc_of cl_840 (by omega) (by omega)
  rcases Nat.lt_or_ge m 920 with h920 | h920
  · exact cc_of cl_880 (by omega) (by omega)
  rcases Nat.lt_or_ge m 960 with h960 | h960
  · exact cc_of cl_920 (by omega) (by omega)
  rcases Nat.lt_or_ge m 1000 with h1000 | h1000
  · exact cc_of cl_960 (by omega) (by omega)
  rcases Nat.lt_or_ge m 1040 with h1040 | h1040
  · exact cc_of cl_1000 (by omega) (by omega)
  rcases Nat.lt_or_ge m 1080 with h1080 | h1080
  · exact cc_of cl_1040 (by omega) (by omega)
  rcases Nat.lt_or_ge m 1120 with h1120 | h1120
  · exact cc_of cl_1080 (by omega) (by omega)
  rcases Nat.lt_or_ge m 1160 with h1160 | h1160
  · exact cc_of cl_1120 (by omega) (by omega)
  rcases Nat.lt_or_ge m 1200 with h1200 | h1200
  · exact cc_of cl_1160 (by omega) (by omega)
  rcases Nat.lt_or_ge m 1240 with h1240 | h1240
  · exact cc_of cl_1200 (by omega) (by omega)
  rcases Nat.lt_or_ge m 1280 with h1280 | h1280
  · exact cc_of cl_1240 (by omega) (by omega)
  rcases Nat.lt_or_ge m 1320 with h1320 | h1320
  · exact cc_of cl_1280 (by omega) (by omega)
  rcases Nat.lt_or_ge m 1360 with h1360 | h1360
  · exact cc_of cl_1320 (by omega) (by omega)
  rcases Nat.lt_or_ge m 1400 with h1400 | h1400
  · exact cc_of cl_1360 (by omega) (by omega)
  rcases Nat.lt_or_ge m 1440 with h1440 | h1440
  · exact cc_of cl_1400 (by omega) (by omega)
  rcases Nat.lt_or_ge m 1480 with h1480 | h1480
  · exact cc_of cl_1440 (by omega) (by omega)
  rcases Nat.lt_or_ge m 1520 with h1520 | h1520
  · exact cc_of cl_1480 (by omega) (by omega)
  rcases Nat.lt_or_ge m 1560 with h1560 | h1560
  · exact cc_of cl_1520 (by omega) (by omega)
  rcases Nat.lt_or_ge m 1600 with h1600 | h1600
  · exact cc_of cl_1560 (by omega) (by omega)
  rcases Nat.lt_or_ge m 1640 with h1640 | h1640
  · exact cc_of cl_1600 (by omega) (by omega)
  rcases Nat.lt_or_ge m 1680 with h1680 | h1680
  · exact cc_of cl_1640 (by omega) (by omega)
  rcases Nat.lt_or_ge m 1720 with h1720 | h1720
  · exact cc_of cl_1680 (by omega) (by omega)
  rcases Nat.lt_or_ge m 1760 with h1760 | h1760
  · exact cc_of cl_1720 (by omega) (by omega)
  rcases Nat.lt_or_ge m 1800 with h1800 | h1800
  · exact cc_of cl_1760 (by omega) (by omega)
  rcases Nat.lt_or_ge m 1840 with h1840 | h1840
  · exact cc_of cl_1800 (by omega) (by omega)
  rcases Nat.lt_or_ge m 1880 with h1880 | h1880
  · exact cc_of cl_1840 (by omega) (by omega)
  rcases Nat.lt_or_ge m 1903 with h1903 | h1903
  · exact cc_of cl_1880 (by omega) (by omega)
  omega
theorem cy_all {m : Nat} (h : m < 344) : chY m = true := by
  rcases Nat.lt_or_ge m 43 with h43 | h43
  · exact cc_of cy_0 (by omega) (by omega)
  rcases Nat.lt_or_ge m 86 with h86 | h86
  · exact cc_of cy_43 (by omega) (by omega)
  rcases Nat.lt_or_ge m 129 with h129 | h129
  · exact cc_of cy_86 (by omega) (by omega)
  rcases Nat.lt_or_ge m 172 with h172 | h172
  · exact cc_of cy_129 (by omega) (by omega)
  rcases Nat.lt_or_ge m 215 with h215 | h215
  · exact cc_of cy_172 (by omega) (by omega)
  rcases Nat.lt_or_ge m 258 with h258 | h258
  · exact cc_of cy_215 (by omega) (by omega)
  rcases Nat.lt_or_ge m 301 with h301 | h301
  · exact cc_of cy_258 (by omega) (by omega)
  rcases Nat.lt_or_ge m 344 with h344 | h344
  · exact cc_of cy_301 (by omega) (by omega)
  omega
