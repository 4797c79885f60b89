/-! parts of the State are copied; cw_ -/
def CpT (F A F' A' : Nat → Nat → Int32) (q p : Nat) : Prop := (F' q 0 = F p 0 ∧ F' q 1 = F p 1 ∧ F' q 2 = F p 2) ∧ (∀ r, 1 ≤ r → r < 5 → ∀ j, j < 12 → A' (q + r) j = A (p + r) j) ∧ (∀ j, j < 400 → A' (q + 5) j = A (p + 5) j) ∧ ∀ r, (r < q ∨ q + 6 ≤ r) → F' r = F r ∧ A' r = A r
def CpC (F A F' A' : Nat → Nat → Int32) (q p : Nat) : Prop := (F' q 0 = F p 0 ∧ F' q 1 = F p 1 ∧ F' q 2 = F p 2) ∧ (∀ r, 1 ≤ r → r < 4 → ∀ j, j < 10 → A' (q + r) j = A (p + r) j) ∧ (∀ j, j < 3 → A' (q + 4) j = A (p + 4) j) ∧ ∀ r, (r < q ∨ q + 5 ≤ r) → F' r = F r ∧ A' r = A r
def CpM (F A F' A' : Nat → Nat → Int32) (q p : Nat) : Prop := (F' q 1 = F p 1 ∧ F' q 2 = F p 2) ∧ (∀ k, 4 ≤ k → k < 9 → F' (q + 1) k = F (p + 1) k) ∧ (∀ r, 2 ≤ r → r < 6 → ∀ j, j < 8 → A' (q + r) j = A (p + r) j) ∧ ∀ r, (r < q ∨ q + 6 ≤ r) → F' r = F r ∧ A' r = A r
section CALLS
variable {g : aG} {d : Nat} {w : aW} {F A : Nat → Nat → Int32} {L : Nat → Int64} {q p : Nat}
theorem c_copyText (hq : TeAt q) (hp : TeAt p) (hd : p + 5 < q ∨ q + 5 < p) (hn : w.1 = N0) : Ev g (d + 3) 58 [.ref q, .ref p] (cW w F A L) (fun v w' => v = none ∧ ∃ F' A', w' = cW w F' A' L ∧ CpT F A F' A' q p) noX := by
  refine ev_X5_copyFrom ?_ (Nat.le_of_ble_eq_true rfl)
  refine x_lo (lo' := [some (.ref q), some (.ref p)]) rfl ?_
  refine x_al rfl rfl ?_
  refine x_al rfl rfl ?_
  refine x_getC rfl hn (by with_reducible exact te_0 (by first | assumption | exact teA (by omega) | exact teN | exact teD | exact te_b (by assumption) | exact teB (by assumption) (by omega))) (by exact rfl) ?_
  refine x_putC rfl hn (by with_reducible exact te_0 (by first | assumption | exact teA (by omega) | exact teN | exact teD | exact te_b (by assumption) | exact teB (by assumption) (by omega))) (by exact rfl) (by first | rfl | exact nr_z (by assumption)) (by first | rfl | exact fi_z _) ?_
  refine x_al rfl rfl ?_
  refine x_al rfl rfl ?_
  refine x_getC rfl hn (by with_reducible exact te_0 (by first | assumption | exact teA (by omega) | exact teN | exact teD | exact te_b (by assumption) | exact teB (by assumption) (by omega))) (by exact rfl) ?_
  refine x_putC rfl hn (by with_reducible exact te_0 (by first | assumption | exact teA (by omega) | exact teN | exact teD | exact te_b (by assumption) | exact teB (by assumption) (by omega))) (by exact rfl) (by first | rfl | exact nr_z (by assumption)) (by first | rfl | exact fi_z _) ?_
  refine x_al rfl rfl ?_
  refine x_al rfl rfl ?_
  refine x_getC rfl hn (by with_reducible exact te_0 (by first | assumption | exact teA (by omega) | exact teN | exact teD | exact te_b (by assumption) | exact teB (by assumption) (by omega))) (by exact rfl) ?_
  refine x_putC rfl hn (by with_reducible exact te_0 (by first | assumption | exact teA (by omega) | exact teN | exact teD | exact te_b (by assumption) | exact teB (by assumption) (by omega))) (by exact rfl) (by first | rfl | exact nr_z (by assumption)) (by first | rfl | exact fi_z _) ?_
  refine x_al rfl rfl ?_
  refine x_getC rfl hn (by with_reducible exact te_0 (by first | assumption | exact teA (by omega) | exact teN | exact teD | exact te_b (by assumption) | exact teB (by assumption) (by omega))) (by exact rfl) ?_
  refine x_al rfl rfl ?_
  refine x_getC rfl hn (by with_reducible exact te_0 (by first | assumption | exact teA (by omega) | exact teN | exact teD | exact te_b (by assumption) | exact teB (by assumption) (by omega))) (by exact rfl) ?_
  refine x_call2 (c_copy (te_1 hp) (te_1 hq) (by decide) hn) rfl (Nat.le_of_ble_eq_true rfl) (Or.inl (by first | exact hn | assumption)) trivial (Nat.le_of_ble_eq_true rfl) (Nat.le_of_ble_eq_true rfl) (fun E w9 hq => hq.elim) ?_
  rintro v9 w9 ⟨rfl, rfl⟩
  refine x_al rfl rfl ?_
  refine x_getC rfl hn (by with_reducible exact te_0 (by first | assumption | exact teA (by omega) | exact teN | exact teD | exact te_b (by assumption) | exact teB (by assumption) (by omega))) (by exact rfl) ?_
  refine x_al rfl rfl ?_
  refine x_getC rfl hn (by with_reducible exact te_0 (by first | assumption | exact teA (by omega) | exact teN | exact teD | exact te_b (by assumption) | exact teB (by assumption) (by omega))) (by exact rfl) ?_
  refine x_call2 (c_copy (te_2 hp) (te_2 hq) (by decide) hn) rfl (Nat.le_of_ble_eq_true rfl) (Or.inl (by first | exact hn | assumption)) trivial (Nat.le_of_ble_eq_true rfl) (Nat.le_of_ble_eq_true rfl) (fun E w9 hq => hq.elim) ?_
  rintro v9 w9 ⟨rfl, rfl⟩
  refine x_al rfl rfl ?_
  refine x_getC rfl hn (by with_reducible exact te_0 (by first | assumption | exact teA (by omega) | exact teN | exact teD | exact te_b (by assumption) | exact teB (by assumption) (by omega))) (by exact rfl) ?_
  refine x_al rfl rfl ?_
  refine x_getC rfl hn (by with_reducible exact te_0 (by first | assumption | exact teA (by omega) | exact teN | exact teD | exact te_b (by assumption) | exact teB (by assumption) (by omega))) (by exact rfl) ?_
  refine x_call2 (c_copy (te_3 hp) (te_3 hq) (by decide) hn) rfl (Nat.le_of_ble_eq_true rfl) (Or.inl (by first | exact hn | assumption)) trivial (Nat.le_of_ble_eq_true rfl) (Nat.le_of_ble_eq_true rfl) (fun E w9 hq => hq.elim) ?_
  rintro v9 w9 ⟨rfl, rfl⟩
  refine x_al rfl rfl ?_
  refine x_getC rfl hn (by with_reducible exact te_0 (by first | assumption | exact teA (by omega) | exact teN | exact teD | exact te_b (by assumption) | exact teB (by assumption) (by omega))) (by exact rfl) ?_
  refine x_al rfl rfl ?_
  refine x_getC rfl hn (by with_reducible exact te_0 (by first | assumption | exact teA (by omega) | exact teN | exact teD | exact te_b (by assumption) | exact teB (by assumption) (by omega))) (by exact rfl) ?_
  refine x_call2 (c_copy (te_4 hp) (te_4 hq) (by decide) hn) rfl (Nat.le_of_ble_eq_true rfl) (Or.inl (by first | exact hn | assumption)) trivial (Nat.le_of_ble_eq_true rfl) (Nat.le_of_ble_eq_true rfl) (fun E w9 hq => hq.elim) ?_
  rintro v9 w9 ⟨rfl, rfl⟩
  refine x_al rfl rfl ?_
  refine x_getC rfl hn (by with_reducible exact te_0 (by first | assumption | exact teA (by omega) | exact teN | exact teD | exact te_b (by assumption) | exact teB (by assumption) (by omega))) (by exact rfl) ?_
  refine x_al rfl rfl ?_
  refine x_getC rfl hn (by with_reducible exact te_0 (by first | assumption | exact teA (by omega) | exact teN | exact teD | exact te_b (by assumption) | exact teB (by assumption) (by omega))) (by exact rfl) ?_
  refine x_call2 (c_copy (te_5 hp) (te_5 hq) (by decide) hn) rfl (Nat.le_of_ble_eq_true rfl) (Or.inl (by first | exact hn | assumption)) trivial (Nat.le_of_ble_eq_true rfl) (Nat.le_of_ble_eq_true rfl) (fun E w9 hq => hq.elim) ?_
  rintro v9 w9 ⟨rfl, rfl⟩
  refine x_retv rfl (Nat.le_of_ble_eq_true rfl) (Nat.le_of_ble_eq_true rfl) rfl ?_
  refine ⟨rfl, _, _, rfl, ⟨?_, ?_, ?_⟩, fun r h1 h2 j hj => ?_, fun j hj => ?_, fun r hr => ⟨?_, ?_⟩⟩
  · simp only [udA_t, udA_udA]
    rw [upd_ne (by decide), upd_ne (by decide), upd_at]
  · simp only [udA_t, udA_udA]
    rw [upd_ne (by decide), upd_at, udA_ne (by omega)]
  · simp only [udA_t, udA_udA]
    rw [upd_at, udA_ne (by omega)]
  · obtain rfl | rfl | rfl | rfl : r = 1 ∨ r = 2 ∨ r = 3 ∨ r = 4 := by omega
    · rw [udA_ne (by omega), udA_ne (by omega), udA_ne (by omega), udA_ne (by omega), udA_t, cpC_at hj]
    · rw [udA_ne (by omega), udA_ne (by omega), udA_ne (by omega), udA_t, cpC_at hj, udA_ne (by omega)]
    · rw [udA_ne (by omega), udA_ne (by omega), udA_t, cpC_at hj, udA_ne (by omega), udA_ne (by omega)]
    · rw [udA_ne (by omega), udA_t, cpC_at hj, udA_ne (by omega), udA_ne (by omega), udA_ne (by omega)]
  · rw [udA_t, cpC_at hj, udA_ne (by omega), udA_ne (by omega), udA_ne (by omega), udA_ne (by omega)]
  · rw [udA_ne (by omega), udA_ne (by omega), udA_ne (by omega)]
  · rw [udA_ne (by omega), udA_ne (by omega), udA_ne (by omega), udA_ne (by omega), udA_ne (by omega)]
theorem c_copyCard (hq : CaAt q) (hp : CaAt p) (hd : p + 4 < q ∨ q + 4 < p) (hn : w.1 = N0) : Ev g (d + 3) 7 [.ref q, .ref p] (cW w F A L) (fun v w' => v = none ∧ ∃ F' A', w' = cW w F' A' L ∧ CpC F A F' A' q p) noX := by
  refine ev_X0_copyFrom ?_ (Nat.le_of_ble_eq_true rfl)
  refine x_lo (lo' := [some (.ref q), some (.ref p)]) rfl ?_
  refine x_al rfl rfl ?_
  refine x_al rfl rfl ?_
  refine x_getC rfl hn (by with_reducible exact ca_0 (by first | assumption | exact caA (by omega) | exact caB (by assumption) (by omega))) (by exact rfl) ?_
  refine x_putC rfl hn (by with_reducible exact ca_0 (by first | assumption | exact caA (by omega) | exact caB (by assumption) (by omega))) (by exact rfl) (by first | rfl | exact nr_z (by assumption)) (by first | rfl | exact fi_z _) ?_
  refine x_al rfl rfl ?_
  refine x_al rfl rfl ?_
  refine x_getC rfl hn (by with_reducible exact ca_0 (by first | assumption | exact caA (by omega) | exact caB (by assumption) (by omega))) (by exact rfl) ?_
  refine x_putC rfl hn (by with_reducible exact ca_0 (by first | assumption | exact caA (by omega) | exact caB (by assumption) (by omega))) (by exact rfl) (by first | rfl | exact nr_z (by assumption)) (by first | rfl | exact fi_z _) ?_
  refine x_al rfl rfl ?_
  refine x_al rfl rfl ?_
  refine x_getC rfl hn (by with_reducible exact ca_0 (by first | assumption | exact caA (by omega) | exact caB (by assumption) (by omega))) (by exact rfl) ?_
  refine x_putC rfl hn (by with_reducible exact ca_0 (by first | assumption | exact caA (by omega) | exact caB (by assumption) (by omega))) (by exact rfl) (by first | rfl | exact nr_z (by assumption)) (by first | rfl | exact fi_z _) ?_
  refine x_al rfl rfl ?_
  refine x_getC rfl hn (by with_reducible exact ca_0 (by first | assumption | exact caA (by omega) | exact caB (by assumption) (by omega))) (by exact rfl) ?_
  refine x_al rfl rfl ?_
  refine x_getC rfl hn (by with_reducible exact ca_0 (by first | assumption | exact caA (by omega) | exact caB (by assumption) (by omega))) (by exact rfl) ?_
  refine x_call2 (c_copy (ca_1 hp) (ca_1 hq) (by decide) hn) rfl (Nat.le_of_ble_eq_true rfl) (Or.inl (by first | exact hn | assumption)) trivial (Nat.le_of_ble_eq_true rfl) (Nat.le_of_ble_eq_true rfl) (fun E w9 hq => hq.elim) ?_
  rintro v9 w9 ⟨rfl, rfl⟩
  refine x_al rfl rfl ?_
  refine x_getC rfl hn (by with_reducible exact ca_0 (by first | assumption | exact caA (by omega) | exact caB (by assumption) (by omega))) (by exact rfl) ?_
  refine x_al rfl rfl ?_
  refine x_getC rfl hn (by with_reducible exact ca_0 (by first | assumption | exact caA (by omega) | exact caB (by assumption) (by omega))) (by exact rfl) ?_
  refine x_call2 (c_copy (ca_2 hp) (ca_2 hq) (by decide) hn) rfl (Nat.le_of_ble_eq_true rfl) (Or.inl (by first | exact hn | assumption)) trivial (Nat.le_of_ble_eq_true rfl) (Nat.le_of_ble_eq_true rfl) (fun E w9 hq => hq.elim) ?_
  rintro v9 w9 ⟨rfl, rfl⟩
  refine x_al rfl rfl ?_
  refine x_getC rfl hn (by with_reducible exact ca_0 (by first | assumption | exact caA (by omega) | exact caB (by assumption) (by omega))) (by exact rfl) ?_
  refine x_al rfl rfl ?_
  refine x_getC rfl hn (by with_reducible exact ca_0 (by first | assumption | exact caA (by omega) | exact caB (by assumption) (by omega))) (by exact rfl) ?_
  refine x_call2 (c_copy (ca_3 hp) (ca_3 hq) (by decide) hn) rfl (Nat.le_of_ble_eq_true rfl) (Or.inl (by first | exact hn | assumption)) trivial (Nat.le_of_ble_eq_true rfl) (Nat.le_of_ble_eq_true rfl) (fun E w9 hq => hq.elim) ?_
  rintro v9 w9 ⟨rfl, rfl⟩
  refine x_al rfl rfl ?_
  refine x_getC rfl hn (by with_reducible exact ca_0 (by first | assumption | exact caA (by omega) | exact caB (by assumption) (by omega))) (by exact rfl) ?_
  refine x_al rfl rfl ?_
  refine x_getC rfl hn (by with_reducible exact ca_0 (by first | assumption | exact caA (by omega) | exact caB (by assumption) (by omega))) (by exact rfl) ?_
  refine x_call2 (c_copy (ca_4 hp) (ca_4 hq) (by decide) hn) rfl (Nat.le_of_ble_eq_true rfl) (Or.inl (by first | exact hn | assumption)) trivial (Nat.le_of_ble_eq_true rfl) (Nat.le_of_ble_eq_true rfl) (fun E w9 hq => hq.elim) ?_
  rintro v9 w9 ⟨rfl, rfl⟩
  refine x_retv rfl (Nat.le_of_ble_eq_true rfl) (Nat.le_of_ble_eq_true rfl) rfl ?_
  refine ⟨rfl, _, _, rfl, ⟨?_, ?_, ?_⟩, fun r h1 h2 j hj => ?_, fun j hj => ?_, fun r hr => ⟨?_, ?_⟩⟩
  · simp only [udA_t, udA_udA]
    rw [upd_ne (by decide), upd_ne (by decide), upd_at]
  · simp only [udA_t, udA_udA]
    rw [upd_ne (by decide), upd_at, udA_ne (by omega)]
  · simp only [udA_t, udA_udA]
    rw [upd_at, udA_ne (by omega)]
  · obtain rfl | rfl | rfl : r = 1 ∨ r = 2 ∨ r = 3 := by omega
    · rw [udA_ne (by omega), udA_ne (by omega), udA_ne (by omega), udA_t, cpC_at hj]
    · rw [udA_ne (by omega), udA_ne (by omega), udA_t, cpC_at hj, udA_ne (by omega)]
    · rw [udA_ne (by omega), udA_t, cpC_at hj, udA_ne (by omega), udA_ne (by omega)]
  · rw [udA_t, cpC_at hj, udA_ne (by omega), udA_ne (by omega), udA_ne (by omega)]
  · rw [udA_ne (by omega), udA_ne (by omega), udA_ne (by omega)]
  · rw [udA_ne (by omega), udA_ne (by omega), udA_ne (by omega), udA_ne (by omega)]
theorem c_copyMark {bg : Bool} (hq : MaAt q) (hp : MaAt p) (hd : p + 5 < q ∨ q + 5 < p) (hb : F p 1 = bI bg) (hn : w.1 = N0) : Ev g (d + 4) 28 [.ref q, .ref p] (cW w F A L) (fun v w' => v = none ∧ ∃ F' A', w' = cW w F' A' L ∧ CpM F A F' A' q p) noX := by
  have hz : bI bg &&& 1 = bI bg := bI_01 bg
  refine ev_X3_copyFrom ?_ (Nat.le_of_ble_eq_true rfl)
  refine x_lo (lo' := [some (.ref q), some (.ref p)]) rfl ?_
  refine x_al rfl rfl ?_
  refine x_getC rfl hn (by with_reducible exact ma_0 (by first | assumption | exact maA (by omega) | exact maB (by assumption) (by omega))) (by exact rfl) ?_
  refine x_al rfl rfl ?_
  refine x_getC rfl hn (by with_reducible exact ma_0 (by first | assumption | exact maA (by omega) | exact maB (by assumption) (by omega))) (by exact rfl) ?_
  refine x_call2 (c_copySheet (ma_sh hq) (ma_sh hp) (by omega) hn) rfl (Nat.le_of_ble_eq_true rfl) (Or.inl (by first | exact hn | assumption)) (rcv_at (cw_fs (by with_reducible exact sh_0 (by first | assumption | exact sh_turned | exact pr_sh (by first | assumption | exact prA (by omega) | exact prD | exact prB (by assumption) (by omega)) | exact ma_sh (by first | assumption | exact maA (by omega) | exact maB (by assumption) (by omega)))) hn) (by decide) (by decide)) (Nat.le_of_ble_eq_true rfl) (Nat.le_of_ble_eq_true rfl) (fun E w9 hq => hq.elim) ?_
  rintro v9 w9 ⟨rfl, h, A', rfl, ⟨s4, s5, s6, s7, s8⟩, sr, so⟩
  refine x_al rfl rfl ?_
  refine x_al rfl rfl ?_
  refine x_getC rfl hn (by with_reducible exact ma_0 (by first | assumption | exact maA (by omega) | exact maB (by assumption) (by omega))) (by exact rfl) ?_
  rw [show udA F (q + 1) h p 1 = bI bg by rw [udA_ne (by omega)]; exact hb]
  refine x_putC rfl hn (by with_reducible exact ma_0 (by first | assumption | exact maA (by omega) | exact maB (by assumption) (by omega))) (by exact rfl) (by first | rfl | exact nr_z (by assumption)) (by first | rfl | exact fi_z _) ?_
  refine x_al rfl rfl ?_
  refine x_al rfl rfl ?_
  refine x_getC rfl hn (by with_reducible exact ma_0 (by first | assumption | exact maA (by omega) | exact maB (by assumption) (by omega))) (by exact rfl) ?_
  refine x_putC rfl hn (by with_reducible exact ma_0 (by first | assumption | exact maA (by omega) | exact maB (by assumption) (by omega))) (by exact rfl) (by first | rfl | exact nr_z (by assumption)) (by first | rfl | exact fi_z _) ?_
  refine x_retv rfl (Nat.le_of_ble_eq_true rfl) (Nat.le_of_ble_eq_true rfl) rfl ?_
  refine ⟨rfl, _, _, rfl, ⟨?_, ?_⟩, fun k h4 h9 => ?_, fun r h1 h2 j hj => ?_, fun r hr => ⟨?_, ?_⟩⟩
  · simp only [udA_t, udA_udA]
    rw [upd_ne (by decide), upd_at, hb]
  · simp only [udA_t, udA_udA]
    rw [upd_at, udA_ne (by omega), udA_ne (by omega)]
  · simp only [udA_udA]
    rw [udA_ne (by omega), udA_t]
    obtain rfl | rfl | rfl | rfl | rfl : k = 4 ∨ k = 5 ∨ k = 6 ∨ k = 7 ∨ k = 8 := by omega
    · exact s4
    · exact s5
    · exact s6
    · exact s7
    · exact s8
  · have := sr (r - 1) (by omega) (by omega) j hj
    rw [show q + 1 + (r - 1) = q + r by omega, show p + 1 + (r - 1) = p + r by omega] at this
    exact this
  · rw [udA_ne (by omega), udA_ne (by omega), udA_ne (by omega)]
  · exact so r (by omega)
theorem c_copyTab {most width n : Nat} (hq : TbAt q most width) (hp : TbAt p most width) (hr : F p 3 = nI n) (hl : n ≤ most) (hm2 : most < 2 ^ 31) (hm : most * width < 2 ^ 31) (hd : p + 1 < q ∨ q + 1 < p) (hn : w.1 = N0) : Ev g (d + 3) 91 [.ref q, .ref p] (cW w F A L) (fun v w' => v = none ∧ ∃ F' A', w' = cW w F' A' L ∧ F' q 3 = nI n ∧ (∀ j, j < most * width → A' (q + 1) j = A (p + 1) j) ∧ ∀ r, (r < q ∨ q + 2 ≤ r) → F' r = F r ∧ A' r = A r) noX := by
  refine ev_X8_copyFrom ?_ (Nat.le_of_ble_eq_true rfl)
  refine x_lo (lo' := [some (.ref q), some (.ref p)]) rfl ?_
  refine x_al rfl rfl ?_
  refine x_al rfl rfl ?_
  refine x_getC rfl hn (by with_reducible exact tb_0 (by first | assumption | exact tbS | exact tbH)) (by exact rfl) ?_
  rw [hr]
  refine x_al rfl rfl ?_
  refine x_getC rfl hn (by with_reducible exact tb_0 (by first | assumption | exact tbS | exact tbH)) (by exact rfl) ?_
  refine x_call2 (m_minN (by omega)) rfl (Nat.le_of_ble_eq_true rfl) (Or.inl (by first | exact hn | assumption)) trivial (Nat.le_of_ble_eq_true rfl) (Nat.le_of_ble_eq_true rfl) (fun E w9 hq => hq.elim) ?_
  rintro v9 w9 ⟨rfl, rfl⟩
  refine x_putC rfl hn (by with_reducible exact tb_0 (by first | assumption | exact tbS | exact tbH)) (by exact rfl) (by first | rfl | exact nr_z (by assumption)) (by first | rfl | exact fi_z _) ?_
  refine x_al rfl rfl ?_
  refine x_getC rfl hn (by with_reducible exact tb_0 (by first | assumption | exact tbS | exact tbH)) (by exact rfl) ?_
  refine x_al rfl rfl ?_
  refine x_getC rfl hn (by with_reducible exact tb_0 (by first | assumption | exact tbS | exact tbH)) (by exact rfl) ?_
  rw [Nat.min_eq_left hl]
  refine x_call2 (c_copy (tb_1 hp) (tb_1 hq) hm hn) rfl (Nat.le_of_ble_eq_true rfl) (Or.inl (by first | exact hn | assumption)) trivial (Nat.le_of_ble_eq_true rfl) (Nat.le_of_ble_eq_true rfl) (fun E w9 hq => hq.elim) ?_
  rintro v9 w9 ⟨rfl, rfl⟩
  refine x_retv rfl (Nat.le_of_ble_eq_true rfl) (Nat.le_of_ble_eq_true rfl) rfl ?_
  refine ⟨rfl, _, _, rfl, ?_, fun j hj => ?_, fun r hr => ⟨?_, ?_⟩⟩
  · rw [udA_t, upd_at]
  · rw [udA_t, cpC_at hj]
  · rw [udA_ne (by omega)]
  · rw [udA_ne (by omega)]
end CALLS
section K
variable {F A F' A' : Nat → Nat → Int32} {f : Nat → Int32} {q p : Nat}
theorem RsP.cp {k : Nat} (h : RsP F A f p k) (hc : CpP F A F' A' q p) (h8 : cN (f (5 + 97 * k + 64)) ≤ 8) : RsP F' A' f q k := by
  obtain ⟨k1, k2, k3, k4, k5, k6, k7⟩ := hc
  obtain ⟨h1, ⟨f1, f2, f3⟩, ⟨l1, l2⟩, r1, r2, r3, r4⟩ := h
  refine ⟨fun i hi => (k1 i hi).trans (h1 i hi), ⟨k2.trans f1, k3.trans f2, k4.trans f3⟩, ⟨(k5 4 (by omega) (by omega)).trans l1, fun j hj => ?_⟩, (k5 5 (by omega) (by omega)).trans r1, (k5 6 (by omega) (by omega)).trans r2, (k5 7 (by omega) (by omega)).trans r3, (k5 8 (by omega) (by omega)).trans r4⟩
  obtain ⟨a1, a2, a3, a4⟩ := l2 j hj
  exact ⟨(k6 3 (by omega) (by omega) j (by omega)).trans a1, (k6 4 (by omega) (by omega) j (by omega)).trans a2, (k6 5 (by omega) (by omega) j (by omega)).trans a3, (k6 6 (by omega) (by omega) j (by omega)).trans a4⟩
theorem RsM.cp {k : Nat} (h : RsM F A f p k) (hc : CpM F A F' A' q p) (h8 : cN (f (5826 + 39 * k + 6)) ≤ 8) : RsM F' A' f q k := by
  obtain ⟨⟨k1, k2⟩, k5, k6, k7⟩ := hc
  obtain ⟨⟨l1, l2⟩, ⟨r1, r2, r3, r4⟩, m1, m2⟩ := h
  refine ⟨⟨(k5 4 (by omega) (by omega)).trans l1, fun j hj => ?_⟩, ⟨(k5 5 (by omega) (by omega)).trans r1, (k5 6 (by omega) (by omega)).trans r2, (k5 7 (by omega) (by omega)).trans r3, (k5 8 (by omega) (by omega)).trans r4⟩, k1.trans m1, k2.trans m2⟩
  obtain ⟨a1, a2, a3, a4⟩ := l2 j hj
  exact ⟨(k6 2 (by omega) (by omega) j (by omega)).trans a1, (k6 3 (by omega) (by omega) j (by omega)).trans a2, (k6 4 (by omega) (by omega) j (by omega)).trans a3, (k6 5 (by omega) (by omega) j (by omega)).trans a4⟩
theorem RsC.cp {c : Nat} (h : RsC F A f p c) (hc : CpC F A F' A' q p) : RsC F' A' f q c := by
  obtain ⟨⟨k0, k1, k2⟩, k5, k6, k7⟩ := hc
  obtain ⟨⟨r1, r2, r3⟩, h1, h2⟩ := h
  refine ⟨⟨k0.trans r1, k1.trans r2, k2.trans r3⟩, fun j hj => ?_, fun t ht => (k6 t ht).trans (h2 t ht)⟩
  obtain ⟨a1, a2, a3⟩ := h1 j hj
  exact ⟨(k5 1 (by omega) (by omega) j hj).trans a1, (k5 2 (by omega) (by omega) j hj).trans a2, fun k hk => by rw [k5 3 (by omega) (by omega) j hj]; exact a3 k hk⟩
theorem TxS.cp {t r : Nat} (h : TxS F A p f t r) (hc : CpT F A F' A' q p) : TxS F' A' q f t r := by
  obtain ⟨⟨k0, k1, k2⟩, k5, k6, k7⟩ := hc
  obtain ⟨r12, h1, h2, h0, hn, N, hN, hR, hE⟩ := h
  refine ⟨r12, k1.trans h1, h2, k0.trans h0, fun n hr => ?_, N, hN, hR, fun i hi => ?_⟩
  · obtain ⟨a1, a2, a3, a4⟩ := hn n hr
    exact ⟨(k5 1 (by omega) (by omega) n (by omega)).trans a1, (k5 2 (by omega) (by omega) n (by omega)).trans a2, (k5 3 (by omega) (by omega) n (by omega)).trans a3, (k5 4 (by omega) (by omega) n (by omega)).trans a4⟩
  · rw [k6 i (by omega)]
    exact hE i hi
end K
