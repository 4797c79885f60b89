/-! lays of the class: small methods, who may pair; cw_ -/
/-- the remainder by 16 is the last four bits -/
theorem lt_z32 (x : Int32) : x < 0 ↔ x.toInt < 0 := Int32.lt_iff_toInt_lt
theorem and15 (x : Int32) : (x &&& 15).toInt = x.toInt % 16 := by
  have h1 : (x &&& 15).toBitVec.toNat = x.toBitVec.toNat % 16 := by
    show (x.toBitVec &&& 15#32).toNat = _
    rw [BitVec.toNat_and]
    exact Nat.and_two_pow_sub_one_eq_mod x.toBitVec.toNat 4
  have e1 : (x &&& 15).toInt = ((x &&& 15).toBitVec.toNat : Int) := by
    show (x &&& 15).toBitVec.toInt = _
    rw [BitVec.toInt_eq_toNat_cond, if_pos (by omega)]
  have e2 : x.toInt = if 2 * x.toBitVec.toNat < 2 ^ 32 then (x.toBitVec.toNat : Int) else (x.toBitVec.toNat : Int) - (2 ^ 32 : Nat) := BitVec.toInt_eq_toNat_cond x.toBitVec
  rw [e1, h1, e2]
  split <;> omega
theorem tdiv16 (X : Int) : (0 ≤ X → X.tdiv 16 = X / 16) ∧ (X < 0 → X.tdiv 16 = -((-X) / 16)) := by
  refine ⟨fun h => Int.tdiv_eq_ediv_of_nonneg h, fun h => ?_⟩
  have e : X = -(-X) := by omega
  have e2 := Int.neg_tdiv (-X) 16
  rw [← e] at e2
  rw [e2, Int.tdiv_eq_ediv_of_nonneg (by omega)]
theorem sub16I (x : Int32) : (x - x / 16 * 16).toInt = x.toInt - x.toInt.tdiv 16 * 16 := by
  have hd : (x / 16).toInt = x.toInt.tdiv 16 := Int32.toInt_div_of_ne_right x 16 (by decide)
  have h1 := x.toInt_lt
  have h2 := x.le_toInt
  have e16 : (16 : Int32).toInt = 16 := rfl
  obtain ⟨e1, e2⟩ := tdiv16 x.toInt
  have hq : -2147483648 ≤ x.toInt.tdiv 16 * 16 ∧ x.toInt.tdiv 16 * 16 < 2147483648 ∧ -16 < x.toInt - x.toInt.tdiv 16 * 16 ∧ x.toInt - x.toInt.tdiv 16 * 16 < 16 := by
    by_cases c : 0 ≤ x.toInt
    · rw [e1 c]; omega
    · rw [e2 (by omega)]; omega
  generalize x.toInt.tdiv 16 = t at *
  have hm : (x / 16 * 16).toInt = t * 16 := by
    rw [Int32.toInt_mul, hd, e16]
    exact Int.bmod_eq_of_le (by omega) (by omega)
  rw [Int32.toInt_sub, hm]
  exact Int.bmod_eq_of_le (by omega) (by omega)
theorem fMod_16 (x : Int32) : fMod x 16 = x &&& 15 := by
  have hs : (x ^^^ 16) < 0 ↔ x < 0 := by
    have h1 : ∀ y : Int32, y < 0 ↔ y.toBitVec.msb = true := by
      intro y
      show y.toBitVec.slt 0#32 = true ↔ _
      rw [BitVec.slt_zero_eq_msb]
    rw [h1, h1]
    show (x.toBitVec ^^^ 16#32).msb = true ↔ _
    rw [BitVec.msb_xor, show (16#32).msb = false from rfl, Bool.xor_false]
  have hr := sub16I x
  have h15 := and15 x
  have e16 : (16 : Int32).toInt = 16 := rfl
  have h1 := x.toInt_lt
  have h2 := x.le_toInt
  obtain ⟨e1, e2⟩ := tdiv16 x.toInt
  apply Int32.toInt_inj.mp
  rw [h15]
  unfold fMod
  have hz : (x - x / 16 * 16 ≠ 0) ↔ ¬ (x - x / 16 * 16).toInt = 0 := not_congr Int32.toInt_inj.symm
  by_cases c : (x ^^^ 16) < 0 ∧ x - x / 16 * 16 ≠ 0
  · rw [if_pos c]
    have c1 := (lt_z32 x).mp (hs.mp c.1)
    have c2 := hz.mp c.2
    rw [Int32.toInt_add, e16]
    rw [hr, e2 c1] at c2 ⊢
    rw [Int.bmod_eq_of_le (by omega) (by omega)]
    omega
  · rw [if_neg c, hr]
    by_cases h : x.toInt < 0
    · have c2 : (x - x / 16 * 16).toInt = 0 := Classical.byContradiction fun h2 => c ⟨hs.mpr ((lt_z32 x).mpr h), hz.mpr h2⟩
      rw [hr] at c2
      rw [e2 h] at c2 ⊢
      omega
    · rw [e1 (by omega)]
      omega
theorem and15_in (x y : Int32) : ((x &&& 15) - y) &&& 15 = (x - y) &&& 15 := by
  apply Int32.toInt_inj.mp
  rw [and15, and15, Int32.toInt_sub, Int32.toInt_sub, and15]
  rw [Int.bmod_def, Int.bmod_def]
  have h1 := x.toInt_lt
  have h2 := x.le_toInt
  have h3 := y.toInt_lt
  have h4 := y.le_toInt
  split <;> split <;> omega
/-- better than the best so far -/
def btrB (b : bS) (p ag q sx sy : Int32) : Bool := if ¬ p = b.1 then decide (b.1 < p) else if ¬ ag = b.2.1 then decide (ag < b.2.1) else if ¬ q = b.2.2.1 then decide (q < b.2.2.1) else if ¬ sx = b.2.2.2.1 then decide (sx < b.2.2.2.1) else decide (sy < b.2.2.2.2)
theorem tri32 (x y : Int32) : x < y ∨ x = y ∨ y < x := by
  rw [Int32.lt_iff_toInt_lt, Int32.lt_iff_toInt_lt, ← Int32.toInt_inj]
  omega
theorem upB_btr (b : bS) (p ag q sx sy : Int32) : upB b p ag q sx sy = if btrB b p ag q sx sy = true then (p, ag, q, sx, sy) else b := by
  obtain ⟨b1, b2, b3, b4, b5⟩ := b
  have ir : ∀ x : Int32, ¬ x < x := fun x => Int32.lt_irrefl
  have as : ∀ {x y : Int32}, x < y → ¬ y < x := fun h h' => ir _ (Int32.lt_trans h h')
  have ne : ∀ {x y : Int32}, x < y → ¬ x = y := fun h e => ir _ (e ▸ h)
  have ne' : ∀ {x y : Int32}, x < y → ¬ y = x := fun h e => ir _ (e ▸ h)
  unfold upB btrB
  dsimp only
  rcases tri32 p b1 with h | rfl | h
  · simp [h, ne h, as h]
  · rcases tri32 ag b2 with h2 | rfl | h2
    · simp [ir, h2, ne h2, as h2]
    · rcases tri32 q b3 with h3 | rfl | h3
      · simp [ir, h3, ne h3, as h3]
      · rcases tri32 sx b4 with h4 | rfl | h4
        · simp [ir, h4, ne h4, as h4]
        · rcases tri32 sy b5 with h5 | rfl | h5
          · simp [ir, h5, Int32.not_le.mpr h5]
          · simp [ir]
          · simp [ir, as h5, Int32.le_of_lt h5]
        · simp [ir, h4, ne' h4, as h4]
      · simp [ir, h3, ne' h3, as h3]
    · simp [ir, h2, ne' h2, as h2]
  · simp [h, ne' h, as h]
section CALLS
variable {g : aG} {d : Nat} {w : aW} {F A : Nat → Nat → Int32} {L : Nat → Int64} {f : Nat → Int32}
def lyT (h : Nat → Int32) (b : bS) : Nat → Int32 := upd (upd (upd (upd (upd h 0 b.1) 1 b.2.1) 2 b.2.2.1) 3 b.2.2.2.1) 4 b.2.2.2.2
/-- the best lay so far stands in the numbers h -/
def BL (h : Nat → Int32) (b : bS) : Prop := h 0 = b.1 ∧ h 1 = b.2.1 ∧ h 2 = b.2.2.1 ∧ h 3 = b.2.2.2.1 ∧ h 4 = b.2.2.2.2
theorem lyT_BL (h : Nat → Int32) (b : bS) : BL (lyT h b) b := ⟨rfl, rfl, rfl, rfl, rfl⟩
theorem lyT_o (h : Nat → Int32) (b : bS) {k : Nat} (hk : 5 ≤ k) : lyT h b k = h k := by
  unfold lyT
  rw [upd_ne (by omega), upd_ne (by omega), upd_ne (by omega), upd_ne (by omega), upd_ne (by omega)]
theorem c_take {a b c e h : Int32} (hn : w.1 = N0) : Ev g (d + 1) 21 [.ref 1396, .int a, .int b, .int c, .int e, .int h] (cW w F A L) (VoidQ (cW w (udA F 1396 (lyT (F 1396) (a, b, c, e, h))) A L)) noX := by
  refine ev_X2_take ?_ (Nat.le_of_ble_eq_true rfl)
  refine x_lo (lo' := [some (.ref 1396), some (.int a), some (.int b), some (.int c), some (.int e), some (.int h)]) rfl ?_
  refine x_al rfl rfl ?_
  refine x_il rfl rfl ?_
  refine x_putC rfl hn (by with_reducible exact sp_1396) (by exact rfl) (by first | rfl | exact nr_z (by assumption)) rfl ?_
  refine x_al rfl rfl ?_
  refine x_il rfl rfl ?_
  refine x_putC rfl hn (by with_reducible exact sp_1396) (by exact rfl) (by first | rfl | exact nr_z (by assumption)) rfl ?_
  refine x_al rfl rfl ?_
  refine x_il rfl rfl ?_
  refine x_putC rfl hn (by with_reducible exact sp_1396) (by exact rfl) (by first | rfl | exact nr_z (by assumption)) rfl ?_
  refine x_al rfl rfl ?_
  refine x_il rfl rfl ?_
  refine x_putC rfl hn (by with_reducible exact sp_1396) (by exact rfl) (by first | rfl | exact nr_z (by assumption)) rfl ?_
  refine x_al rfl rfl ?_
  refine x_il rfl rfl ?_
  refine x_putC rfl hn (by with_reducible exact sp_1396) (by exact rfl) (by first | rfl | exact nr_z (by assumption)) rfl ?_
  refine x_retv rfl (Nat.le_of_ble_eq_true rfl) (Nat.le_of_ble_eq_true rfl) rfl ?_
  refine ⟨rfl, ?_⟩
  simp only [udA_t, udA_udA]
  rfl
theorem c_isBetter {b : bS} {p ag q sx sy : Int32} (hb : BL (F 1396) b) (hn : w.1 = N0) : Ev g (d + 1) 26 [.ref 1396, .int p, .int ag, .int q, .int sx, .int sy] (cW w F A L) (RetQ (bI (btrB b p ag q sx sy)) (cW w F A L)) noX := by
  obtain ⟨b0, b1, b2, b3, b4⟩ := hb
  unfold btrB
  rw [← b0, ← b1, ← b2, ← b3, ← b4]
  refine ev_X2_isBetter ?_ (Nat.le_of_ble_eq_true rfl)
  refine x_lo (lo' := [some (.ref 1396), some (.int p), some (.int ag), some (.int q), some (.int sx), some (.int sy)]) rfl ?_
  refine x_il rfl rfl ?_
  refine x_al rfl rfl ?_
  refine x_getC rfl hn (by with_reducible exact sp_1396) (by exact rfl) ?_
  refine x_iceq rfl (fun c1 => ?_) (fun c1 => ?_)
  rotate_left
  · refine x_il rfl rfl ?_
    refine x_al rfl rfl ?_
    refine x_getC rfl hn (by with_reducible exact sp_1396) (by exact rfl) ?_
    refine x_icle rfl (fun c2 => ?_) (fun c2 => ?_)
    · refine x_c rfl ?_
      refine x_retz rfl (Nat.le_of_ble_eq_true rfl) (Nat.le_of_ble_eq_true rfl) rfl (by first | rfl | assumption) ?_
      exact ⟨by rw [if_pos c1, bI_f (Int32.not_lt.mpr c2)], rfl⟩
    refine x_c rfl ?_
    refine x_go rfl ?_
    refine x_retz rfl (Nat.le_of_ble_eq_true rfl) (Nat.le_of_ble_eq_true rfl) rfl (by first | rfl | assumption) ?_
    exact ⟨by rw [if_pos c1, bI_t (Int32.not_le.mp c2)], rfl⟩
  refine x_il rfl rfl ?_
  refine x_al rfl rfl ?_
  refine x_getC rfl hn (by with_reducible exact sp_1396) (by exact rfl) ?_
  rw [if_neg (fun h => h c1)]
  refine x_iceq rfl (fun c1 => ?_) (fun c1 => ?_)
  rotate_left
  · refine x_il rfl rfl ?_
    refine x_al rfl rfl ?_
    refine x_getC rfl hn (by with_reducible exact sp_1396) (by exact rfl) ?_
    refine x_icge rfl (fun c2 => ?_) (fun c2 => ?_)
    · refine x_c rfl ?_
      refine x_retz rfl (Nat.le_of_ble_eq_true rfl) (Nat.le_of_ble_eq_true rfl) rfl (by first | rfl | assumption) ?_
      exact ⟨by rw [if_pos c1, bI_f (Int32.not_lt.mpr c2)], rfl⟩
    refine x_c rfl ?_
    refine x_go rfl ?_
    refine x_retz rfl (Nat.le_of_ble_eq_true rfl) (Nat.le_of_ble_eq_true rfl) rfl (by first | rfl | assumption) ?_
    exact ⟨by rw [if_pos c1, bI_t (Int32.not_le.mp c2)], rfl⟩
  refine x_il rfl rfl ?_
  refine x_al rfl rfl ?_
  refine x_getC rfl hn (by with_reducible exact sp_1396) (by exact rfl) ?_
  rw [if_neg (fun h => h c1)]
  refine x_iceq rfl (fun c1 => ?_) (fun c1 => ?_)
  rotate_left
  · refine x_il rfl rfl ?_
    refine x_al rfl rfl ?_
    refine x_getC rfl hn (by with_reducible exact sp_1396) (by exact rfl) ?_
    refine x_icge rfl (fun c2 => ?_) (fun c2 => ?_)
    · refine x_c rfl ?_
      refine x_retz rfl (Nat.le_of_ble_eq_true rfl) (Nat.le_of_ble_eq_true rfl) rfl (by first | rfl | assumption) ?_
      exact ⟨by rw [if_pos c1, bI_f (Int32.not_lt.mpr c2)], rfl⟩
    refine x_c rfl ?_
    refine x_go rfl ?_
    refine x_retz rfl (Nat.le_of_ble_eq_true rfl) (Nat.le_of_ble_eq_true rfl) rfl (by first | rfl | assumption) ?_
    exact ⟨by rw [if_pos c1, bI_t (Int32.not_le.mp c2)], rfl⟩
  refine x_il rfl rfl ?_
  refine x_al rfl rfl ?_
  refine x_getC rfl hn (by with_reducible exact sp_1396) (by exact rfl) ?_
  rw [if_neg (fun h => h c1)]
  refine x_iceq rfl (fun c1 => ?_) (fun c1 => ?_)
  rotate_left
  · refine x_il rfl rfl ?_
    refine x_al rfl rfl ?_
    refine x_getC rfl hn (by with_reducible exact sp_1396) (by exact rfl) ?_
    refine x_icge rfl (fun c2 => ?_) (fun c2 => ?_)
    · refine x_c rfl ?_
      refine x_go rfl ?_
      refine x_retz rfl (Nat.le_of_ble_eq_true rfl) (Nat.le_of_ble_eq_true rfl) rfl (by first | rfl | assumption) ?_
      exact ⟨by rw [if_pos c1, bI_f (Int32.not_lt.mpr c2)], rfl⟩
    refine x_c rfl ?_
    refine x_go rfl ?_
    refine x_retz rfl (Nat.le_of_ble_eq_true rfl) (Nat.le_of_ble_eq_true rfl) rfl (by first | rfl | assumption) ?_
    exact ⟨by rw [if_pos c1, bI_t (Int32.not_le.mp c2)], rfl⟩
  refine x_il rfl rfl ?_
  refine x_al rfl rfl ?_
  refine x_getC rfl hn (by with_reducible exact sp_1396) (by exact rfl) ?_
  rw [if_neg (fun h => h c1)]
  refine x_icge rfl (fun c2 => ?_) (fun c2 => ?_)
  · refine x_c rfl ?_
    refine x_retz rfl (Nat.le_of_ble_eq_true rfl) (Nat.le_of_ble_eq_true rfl) rfl (by first | rfl | assumption) ?_
    exact ⟨by rw [bI_f (Int32.not_lt.mpr c2)], rfl⟩
  refine x_c rfl ?_
  refine x_go rfl ?_
  refine x_retz rfl (Nat.le_of_ble_eq_true rfl) (Nat.le_of_ble_eq_true rfl) rfl (by first | rfl | assumption) ?_
  exact ⟨by rw [bI_t (Int32.not_le.mp c2)], rfl⟩
theorem c_keyM {k p : Nat} (hn : w.1 = N0) : Ev g (d + 1) 15 [.ref 1396, .int (nI k), .int (nI p)] (cW w F A L) (RetQ (nI (k * 60 + p)) (cW w F A L)) noX := by
  refine ev_X2_keyOfMark ?_ (Nat.le_of_ble_eq_true rfl)
  refine x_lo (lo' := [some (.ref 1396), some (.int (nI k)), some (.int (nI p))]) rfl ?_
  refine x_il rfl rfl ?_
  refine x_c rfl ?_
  refine x_mulN (y := 60) rfl ?_
  refine x_il rfl rfl ?_
  refine x_addN rfl ?_
  refine x_reti rfl (Nat.le_of_ble_eq_true rfl) (Nat.le_of_ble_eq_true rfl) rfl ?_
  exact ⟨rfl, rfl⟩
theorem c_keyP {k p : Nat} (hn : w.1 = N0) : Ev g (d + 1) 16 [.ref 1396, .int (nI k), .int (nI p)] (cW w F A L) (RetQ (nI ((20 + k) * 60 + p)) (cW w F A L)) noX := by
  refine ev_X2_keyOfPrint ?_ (Nat.le_of_ble_eq_true rfl)
  refine x_lo (lo' := [some (.ref 1396), some (.int (nI k)), some (.int (nI p))]) rfl ?_
  refine x_c rfl ?_
  refine x_il rfl rfl ?_
  refine x_addN (x := 20) rfl ?_
  refine x_c rfl ?_
  refine x_mulN (y := 60) rfl ?_
  refine x_il rfl rfl ?_
  refine x_addN rfl ?_
  refine x_reti rfl (Nat.le_of_ble_eq_true rfl) (Nat.le_of_ble_eq_true rfl) rfl ?_
  exact ⟨rfl, rfl⟩
theorem c_forget {v : Nat} (h : F 1396 11 = nI v) (hn : w.1 = N0) : Ev g (d + 1) 17 [.ref 1396] (cW w F A L) (VoidQ (cW w (udA F 1396 (upd (F 1396) 11 (nI (v + 1)))) A L)) noX := by
  refine ev_X2_forget ?_ (Nat.le_of_ble_eq_true rfl)
  refine x_lo (lo' := [some (.ref 1396)]) rfl ?_
  refine x_al rfl rfl ?_
  refine x_dup rfl rfl ?_
  refine x_getC rfl hn (by with_reducible exact sp_1396) (by exact rfl) ?_
  rw [h]
  refine x_c rfl ?_
  refine x_addN (y := 1) rfl ?_
  refine x_putC rfl hn (by with_reducible exact sp_1396) (by exact rfl) (by first | rfl | exact nr_z (by assumption)) rfl ?_
  refine x_retv rfl (Nat.le_of_ble_eq_true rfl) (Nat.le_of_ble_eq_true rfl) rfl ?_
  exact ⟨rfl, rfl⟩
/-- the best lay kept at b -/
def kpB (h : Nat → Int32) (b : Nat) : bS := (h (b + 1), h (b + 2), h (b + 3), h (b + 4), h (b + 5))
theorem c_recall {b : Nat} (hb : b + 6 ≤ 28800) (hn : w.1 = N0) : Ev g (d + 2) 19 [.ref 1396, .int (nI b)] (cW w F A L) (VoidQ (cW w (udA F 1396 (lyT (F 1396) (kpB (A 1404) b))) A L)) noX := by
  refine ev_X2_recall ?_ (Nat.le_of_ble_eq_true rfl)
  refine x_lo (lo' := [some (.ref 1396), some (.int (nI b))]) rfl ?_
  refine x_al rfl rfl ?_
  refine x_al rfl rfl ?_
  refine x_getC rfl hn (by with_reducible exact sp_1396) (by exact rfl) ?_
  refine x_il rfl rfl ?_
  refine x_c rfl ?_
  refine x_addN (y := 1) rfl ?_
  refine x_iaC rfl hn (by with_reducible exact sp_1404) (by omega) ?_
  refine x_al rfl rfl ?_
  refine x_getC rfl hn (by with_reducible exact sp_1396) (by exact rfl) ?_
  refine x_il rfl rfl ?_
  refine x_c rfl ?_
  refine x_addN (y := 2) rfl ?_
  refine x_iaC rfl hn (by with_reducible exact sp_1404) (by omega) ?_
  refine x_al rfl rfl ?_
  refine x_getC rfl hn (by with_reducible exact sp_1396) (by exact rfl) ?_
  refine x_il rfl rfl ?_
  refine x_c rfl ?_
  refine x_addN (y := 3) rfl ?_
  refine x_iaC rfl hn (by with_reducible exact sp_1404) (by omega) ?_
  refine x_al rfl rfl ?_
  refine x_getC rfl hn (by with_reducible exact sp_1396) (by exact rfl) ?_
  refine x_il rfl rfl ?_
  refine x_c rfl ?_
  refine x_addN (y := 4) rfl ?_
  refine x_iaC rfl hn (by with_reducible exact sp_1404) (by omega) ?_
  refine x_al rfl rfl ?_
  refine x_getC rfl hn (by with_reducible exact sp_1396) (by exact rfl) ?_
  refine x_il rfl rfl ?_
  refine x_c rfl ?_
  refine x_addN (y := 5) rfl ?_
  refine x_iaC rfl hn (by with_reducible exact sp_1404) (by omega) ?_
  refine x_call6 (c_take hn) rfl (Nat.le_of_ble_eq_true rfl) (Or.inl (by first | exact hn | assumption)) (rcv_at (cw_fs (by with_reducible exact sp_1396) hn) (by decide) (by decide)) (Nat.le_of_ble_eq_true rfl) (Nat.le_of_ble_eq_true rfl) (fun E w9 hq => hq.elim) ?_
  rintro v9 w9 ⟨rfl, rfl⟩
  refine x_retv rfl (Nat.le_of_ble_eq_true rfl) (Nat.le_of_ble_eq_true rfl) rfl ?_
  exact ⟨rfl, rfl⟩
def kpW (h : Nat → Int32) (b : Nat) (v : Int32) (x : bS) : Nat → Int32 := upd (upd (upd (upd (upd (upd h b v) (b + 1) x.1) (b + 2) x.2.1) (b + 3) x.2.2.1) (b + 4) x.2.2.2.1) (b + 5) x.2.2.2.2
theorem c_keep {b : Nat} {x : bS} (hx : BL (F 1396) x) (hb : b + 6 ≤ 28800) (hn : w.1 = N0) : Ev g (d + 1) 20 [.ref 1396, .int (nI b)] (cW w F A L) (VoidQ (cW w F (udA A 1404 (kpW (A 1404) b (F 1396 11) x)) L)) noX := by
  obtain ⟨b0, b1, b2, b3, b4⟩ := hx
  refine ev_X2_keep ?_ (Nat.le_of_ble_eq_true rfl)
  refine x_lo (lo' := [some (.ref 1396), some (.int (nI b))]) rfl ?_
  refine x_al rfl rfl ?_
  refine x_getC rfl hn (by with_reducible exact sp_1396) (by exact rfl) ?_
  refine x_il rfl rfl ?_
  refine x_al rfl rfl ?_
  refine x_getC rfl hn (by with_reducible exact sp_1396) (by exact rfl) ?_
  refine x_iasC rfl hn (by with_reducible exact sp_1404) (by omega) ?_
  refine x_al rfl rfl ?_
  refine x_getC rfl hn (by with_reducible exact sp_1396) (by exact rfl) ?_
  refine x_il rfl rfl ?_
  refine x_c rfl ?_
  refine x_addN (y := 1) rfl ?_
  refine x_al rfl rfl ?_
  refine x_getC rfl hn (by with_reducible exact sp_1396) (by exact rfl) ?_
  refine x_iasC rfl hn (by with_reducible exact sp_1404) (by omega) ?_
  refine x_al rfl rfl ?_
  refine x_getC rfl hn (by with_reducible exact sp_1396) (by exact rfl) ?_
  refine x_il rfl rfl ?_
  refine x_c rfl ?_
  refine x_addN (y := 2) rfl ?_
  refine x_al rfl rfl ?_
  refine x_getC rfl hn (by with_reducible exact sp_1396) (by exact rfl) ?_
  refine x_iasC rfl hn (by with_reducible exact sp_1404) (by omega) ?_
  refine x_al rfl rfl ?_
  refine x_getC rfl hn (by with_reducible exact sp_1396) (by exact rfl) ?_
  refine x_il rfl rfl ?_
  refine x_c rfl ?_
  refine x_addN (y := 3) rfl ?_
  refine x_al rfl rfl ?_
  refine x_getC rfl hn (by with_reducible exact sp_1396) (by exact rfl) ?_
  refine x_iasC rfl hn (by with_reducible exact sp_1404) (by omega) ?_
  refine x_al rfl rfl ?_
  refine x_getC rfl hn (by with_reducible exact sp_1396) (by exact rfl) ?_
  refine x_il rfl rfl ?_
  refine x_c rfl ?_
  refine x_addN (y := 4) rfl ?_
  refine x_al rfl rfl ?_
  refine x_getC rfl hn (by with_reducible exact sp_1396) (by exact rfl) ?_
  refine x_iasC rfl hn (by with_reducible exact sp_1404) (by omega) ?_
  refine x_al rfl rfl ?_
  refine x_getC rfl hn (by with_reducible exact sp_1396) (by exact rfl) ?_
  refine x_il rfl rfl ?_
  refine x_c rfl ?_
  refine x_addN (y := 5) rfl ?_
  refine x_al rfl rfl ?_
  refine x_getC rfl hn (by with_reducible exact sp_1396) (by exact rfl) ?_
  refine x_iasC rfl hn (by with_reducible exact sp_1404) (by omega) ?_
  refine x_retv rfl (Nat.le_of_ble_eq_true rfl) (Nat.le_of_ble_eq_true rfl) rfl ?_
  refine ⟨rfl, ?_⟩
  simp only [udA_t, udA_udA]
  rw [b0, b1, b2, b3, b4]
  rfl
end CALLS
