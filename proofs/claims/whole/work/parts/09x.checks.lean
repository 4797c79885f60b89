theorem cm_len : codeL.length = 345 := by decide +kernel
theorem cx_0 : (vx_atS RX10 (icOf 0).2 (exN 0) exSup).all (fun w => decide (w ∈ lw_tbl) && (goodWord w || warmW w) && vx_ot w) = true := by decide +kernel
theorem cx_1 : (vx_atS RX10 (icOf 1).2 (exN 1) exSup).all (fun w => decide (w ∈ lw_tbl) && (goodWord w || warmW w) && vx_ot w) = true := by decide +kernel
theorem cx_2 : (vx_atS RX10 (icOf 2).2 (exN 2) exSup).all (fun w => decide (w ∈ lw_tbl) && (goodWord w || warmW w) && vx_ot w) = true := by decide +kernel
theorem cx_l : [0, 1, 2, 3].all (fun a => decide (Cond.classLink RX10 (icOf a).1 (exN a) ∈ lw_tbl) && decide (Cond.initialized (exN a) ∈ lw_tbl) && decide (Cond.castable (exN a) (exN a) ∈ lw_tbl)) = true := by decide +kernel
