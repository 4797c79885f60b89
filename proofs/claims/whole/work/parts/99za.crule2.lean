/-! the class reads a rule; cw_ -/
def FrU (F A F' A' : Nat → Nat → Int32) : Prop := (∀ q, q ≠ 1 → q ≠ 1414 → F' q = F q) ∧ (∀ k, k ≠ 2 → k ≠ 7 → F' 1 k = F 1 k) ∧ F' 1414 0 = F 1414 0 ∧ ∀ q, (q < 1415 ∨ 1419 < q) → A' q = A q
theorem FrP.u {F A F' A' : Nat → Nat → Int32} (h : FrP F A F' A') : FrU F A F' A' := ⟨h.1, h.2.1, h.2.2.1 0 (by decide), fun q hq => h.2.2.2 q (by omega)⟩
theorem FrU.trans {F A F' A' F2 A2 : Nat → Nat → Int32} (h : FrU F A F' A') (h2 : FrU F' A' F2 A2) : FrU F A F2 A2 := ⟨fun q a c => (h2.1 q a c).trans (h.1 q a c), fun k a c => (h2.2.1 k a c).trans (h.2.1 k a c), h2.2.2.1.trans h.2.2.1, fun q a => (h2.2.2.2 q a).trans (h.2.2.2 q a)⟩
theorem FrU.tk {F A F' A' : Nat → Nat → Int32} {t : Nat → Int32} {b : Nat → Nat} {en n : Nat} (h : FrU F A F' A') (hT : TkA F A t b en n) : TkA F' A' t b en n := hT.keep (h.2.1 1 (by decide) (by decide)) (h.2.1 6 (by decide) (by decide)) (fun q hq => h.2.2.2 q (by omega))
def RQC (w : aW) (F A : Nat → Nat → Int32) (L : Nat → Int64) (t : Nat → Int32) (b : Nat → Nat) (en n u r p : Nat) (R : RR) : Option Value → aW → Prop := fun v w' => v = some (.int (bI R.1)) ∧ ∃ F' A', w' = cW w F' A' L ∧ FrU F A F' A' ∧ (R.1 = false → F' 1 2 = nI R.2.2.1) ∧ (R.1 = true → F' 1 2 = F 1 2 ∧ (∃ j', F' 1 7 = nI j' ∧ j' ≤ n ∧ wS t en (PP t b en j') = wS t en R.2.1) ∧ F' 1414 1 = nI (r + 1) ∧ F' 1414 2 = nI (u + R.2.2.2.length) ∧ (∃ s, sortW t en p = some s ∧ A' 1415 = upd (A 1415) r (nI s) ∧ A' 1416 = upd (A 1416) r (nrW t en p s) ∧ A' 1417 = upd (A 1417) r (nI u) ∧ A' 1418 = upd (A 1418) r (nI (u + R.2.2.2.length))) ∧ (∀ i, i < u → A' 1419 i = A 1419 i) ∧ CoR (A' 1419) u R.2.2.2)
theorem RQ_f {w : aW} {F A F' A' : Nat → Nat → Int32} {L : Nat → Int64} {t : Nat → Int32} {b : Nat → Nat} {en n u r p s x : Nat} {P : RR} (hP : P = (false, x, s, [])) (h1 : FrU F A F' A') (h2 : F' 1 2 = nI s) : RQC w F A L t b en n u r p P (some (.int 0)) (cW w F' A' L) := by
  subst hP
  exact ⟨rfl, F', A', rfl, h1, fun _ => h2, fun h => absurd h (by show ¬ false = true; decide)⟩
section READ
variable {g : aG} {d n en j p : Nat} {t : Nat → Int32} {b : Nat → Nat} {c : Nat → Int32} {w : aW} {F A : Nat → Nat → Int32} {L : Nat → Int64}
theorem c_takeNumberOf {s : Nat} (hs : s < 6) (hB : TpR t c en b) (hT : TkA F A t b en n) (h7 : F 1 7 = nI j) (hj : j ≤ n) (hp : wS t en (PP t b en j) = wS t en p) (hpe : p ≤ en) (h4 : n ≤ 400) (hn : w.1 = N0) : Ev g (d + 3) 45 [.int (nI s), .ref 1] (cW w F A L) (fun v w' => ((2 ≤ s ∧ s ≤ 4) ∧ ((numR t en (wS t en p) (loS s) (hiS s) < 0 ∧ v = some (.int (-1)) ∧ w' = cW w (udA F 1 (upd (F 1) 2 (nI (wS t en p)))) A L) ∨ (¬ numR t en (wS t en p) (loS s) (hiS s) < 0 ∧ v = some (.int (numR t en (wS t en p) (loS s) (hiS s))) ∧ (j + 1 ≤ n ∧ wS t en (PP t b en (j + 1)) = wS t en (runs t en 48 57 (wS t en p))) ∧ w' = cW w (udA F 1 (upd (F 1) 7 (nI (j + 1)))) A L))) ∨ (¬ (2 ≤ s ∧ s ≤ 4) ∧ v = some (.int 0) ∧ w' = cW w F A L)) noX := by
  refine ev_X5_takeNumberOf ?_ (Nat.le_of_ble_eq_true rfl)
  refine x_lo (lo' := [some (.int (nI s)), some (.ref 1)]) rfl ?_
  refine x_il rfl rfl ?_
  rcases (show s = 0 ∨ s = 1 ∨ s = 2 ∨ s = 3 ∨ s = 4 ∨ s = 5 by omega) with rfl | rfl | rfl | rfl | rfl | rfl
  · refine x_swD rfl (by decide) ?_
    refine x_c rfl ?_
    refine x_reti rfl (Nat.le_of_ble_eq_true rfl) (Nat.le_of_ble_eq_true rfl) rfl ?_
    exact Or.inr ⟨by decide, rfl, rfl⟩
  · refine x_swD rfl (by decide) ?_
    refine x_c rfl ?_
    refine x_reti rfl (Nat.le_of_ble_eq_true rfl) (Nat.le_of_ble_eq_true rfl) rfl ?_
    exact Or.inr ⟨by decide, rfl, rfl⟩
  · refine x_swJ 0 rfl (by decide) rfl ?_
    refine x_al rfl rfl ?_
    refine x_c rfl ?_
    refine x_c rfl ?_
    refine x_call3 (c_takeNumber hB hT h7 hj hp hpe h4 (show (0 : Int32) ≤ 1 by decide) hn) rfl (Nat.le_of_ble_eq_true rfl) (Or.inl (by first | exact hn | assumption)) (rcv_at (cw_fs (by with_reducible exact sp_1) hn) (by decide) (by decide)) (Nat.le_of_ble_eq_true rfl) (Nat.le_of_ble_eq_true rfl) (fun E w9 hq => hq.elim) ?_
    rintro v9 w9 hh
    rcases hh with ⟨k1, rfl, rfl⟩ | ⟨k1, rfl, k2, rfl⟩
    · refine x_reti rfl (Nat.le_of_ble_eq_true rfl) (Nat.le_of_ble_eq_true rfl) rfl ?_
      exact Or.inl ⟨by decide, Or.inl ⟨k1, rfl, rfl⟩⟩
    · refine x_reti rfl (Nat.le_of_ble_eq_true rfl) (Nat.le_of_ble_eq_true rfl) rfl ?_
      exact Or.inl ⟨by decide, Or.inr ⟨k1, rfl, k2, rfl⟩⟩
  · refine x_swJ 1 rfl (by decide) rfl ?_
    refine x_al rfl rfl ?_
    refine x_c rfl ?_
    refine x_c rfl ?_
    refine x_call3 (c_takeNumber hB hT h7 hj hp hpe h4 (show (0 : Int32) ≤ 1 by decide) hn) rfl (Nat.le_of_ble_eq_true rfl) (Or.inl (by first | exact hn | assumption)) (rcv_at (cw_fs (by with_reducible exact sp_1) hn) (by decide) (by decide)) (Nat.le_of_ble_eq_true rfl) (Nat.le_of_ble_eq_true rfl) (fun E w9 hq => hq.elim) ?_
    rintro v9 w9 hh
    rcases hh with ⟨k1, rfl, rfl⟩ | ⟨k1, rfl, k2, rfl⟩
    · refine x_reti rfl (Nat.le_of_ble_eq_true rfl) (Nat.le_of_ble_eq_true rfl) rfl ?_
      exact Or.inl ⟨by decide, Or.inl ⟨k1, rfl, rfl⟩⟩
    · refine x_reti rfl (Nat.le_of_ble_eq_true rfl) (Nat.le_of_ble_eq_true rfl) rfl ?_
      exact Or.inl ⟨by decide, Or.inr ⟨k1, rfl, k2, rfl⟩⟩
  · refine x_swJ 2 rfl (by decide) rfl ?_
    refine x_al rfl rfl ?_
    refine x_c rfl ?_
    refine x_c rfl ?_
    refine x_call3 (c_takeNumber hB hT h7 hj hp hpe h4 (show (0 : Int32) ≤ 0 by decide) hn) rfl (Nat.le_of_ble_eq_true rfl) (Or.inl (by first | exact hn | assumption)) (rcv_at (cw_fs (by with_reducible exact sp_1) hn) (by decide) (by decide)) (Nat.le_of_ble_eq_true rfl) (Nat.le_of_ble_eq_true rfl) (fun E w9 hq => hq.elim) ?_
    rintro v9 w9 hh
    rcases hh with ⟨k1, rfl, rfl⟩ | ⟨k1, rfl, k2, rfl⟩
    · refine x_reti rfl (Nat.le_of_ble_eq_true rfl) (Nat.le_of_ble_eq_true rfl) rfl ?_
      exact Or.inl ⟨by decide, Or.inl ⟨k1, rfl, rfl⟩⟩
    · refine x_reti rfl (Nat.le_of_ble_eq_true rfl) (Nat.le_of_ble_eq_true rfl) rfl ?_
      exact Or.inl ⟨by decide, Or.inr ⟨k1, rfl, k2, rfl⟩⟩
  · refine x_swD rfl (by decide) ?_
    refine x_c rfl ?_
    refine x_reti rfl (Nat.le_of_ble_eq_true rfl) (Nat.le_of_ble_eq_true rfl) rfl ?_
    exact Or.inr ⟨by decide, rfl, rfl⟩
/-- what is to come behind a rule's sort and number -/
def pRest (t : Nat → Int32) (en p s : Nat) (x : Nat) : RR := if s = 2 ∨ s = 3 then (true, p, x, []) else pIf t en p s
theorem sort_some (hB : TpR t c en b) (hpe : p ≤ en) {i : Nat} (hi : i < 6) (hw : wdB t (wE t en p) (wS t en p) (WL.getD i 0) = true) : sortW t en p = some i := by
  unfold sortW
  rw [fiW_sub [1, 2, 3, 4, 5, 6] 0 ks_a (by decide) (by omega) hw, if_pos ⟨by omega, by show i < 0 + 6; omega⟩]
  rfl
theorem sort_none {i : Nat} (hi : 6 ≤ i) (h19 : i < 19) (hw : wdB t (wE t en p) (wS t en p) (WL.getD i 0) = true) : sortW t en p = none := by
  unfold sortW
  rw [fiW_sub [1, 2, 3, 4, 5, 6] 0 ks_a (by decide) h19 hw, if_neg (fun h => by have : i < 0 + 6 := h.2; omega)]
theorem sort_no (h : ∀ i, i < 19 → ¬ wdB t (wE t en p) (wS t en p) (WL.getD i 0) = true) : sortW t en p = none := by
  unfold sortW
  exact fiW_sub0 [1, 2, 3, 4, 5, 6] 0 ks_a (by decide) h
theorem c_readRule {u r : Nat} (hB : TpR t c en b) (hen : en ≤ 400) (hn4 : n ≤ 400) (hT : TkA F A t b en n) (h7 : F 1 7 = nI j) (hj : j ≤ n) (hp : wS t en (PP t b en j) = wS t en p) (hpe : p ≤ en) (h1 : F 1414 1 = nI r) (hr : r < 12) (h2 : F 1414 2 = nI u) (hu : u ≤ p) (hn : w.1 = N0) : Ev g (d + 38) 44 [.ref 1414, .ref 1] (cW w F A L) (RQC w F A L t b en n u r p (pRule t en r p)) noX := by
  have q1 : wE t en p ≤ en := wE_le hpe
  have q3 := wS_ge (t := t) (en := en) (p := p)
  have q4 := wE_ge (t := t) (en := en) (p := p)
  generalize hP : pRule t en r p = P
  unfold pRule at hP
  rw [if_neg (by omega)] at hP
  have l16 : ∀ tok : Int32, sortW t en p = none → EX g mbOf (Ev g (d + 37)) (infoOf 44) k_X5_readRule (RQC w F A L t b en n u r p P) noX w.1 (cW w F A L) 0 0 16 [some (.ref 1414), some (.ref 1), some (.int tok), none, none, none] [] := by
    intro tok hs
    rw [hs] at hP
    refine x_al rfl rfl ?_
    refine x_call1 (c_fail hT h7 hj hp hn4 hn) rfl (Nat.le_of_ble_eq_true rfl) (Or.inl (by first | exact hn | assumption)) (rcv_at (cw_fs (by with_reducible exact sp_1) hn) (by decide) (by decide)) (Nat.le_of_ble_eq_true rfl) (Nat.le_of_ble_eq_true rfl) (fun E w9 hq => hq.elim) ?_
    rintro v9 w9 ⟨rfl, rfl⟩
    refine x_retz rfl (Nat.le_of_ble_eq_true rfl) (Nat.le_of_ble_eq_true rfl) rfl (by first | rfl | assumption | exact bI_01 _) ?_
    exact RQ_f hP.symm (FrP.f1 (by omega)).u (by rw [udA_t, upd_at])
  have l64 : ∀ (s p3 x : Nat) (F3 A3 : Nat → Nat → Int32) (Ls : List (Int32 × Int32)) (z : Int32), sortW t en p = some s → P = (true, p3, x, Ls) → FrP F A F3 A3 → F3 1 2 = F 1 2 → (∃ j', F3 1 7 = nI j' ∧ j' ≤ n ∧ wS t en (PP t b en j') = wS t en p3) → F3 1414 2 = nI (u + Ls.length) → (∀ i, i < u → A3 1419 i = A 1419 i) → CoR (A3 1419) u Ls → EX g mbOf (Ev g (d + 37)) (infoOf 44) k_X5_readRule (RQC w F A L t b en n u r p P) noX w.1 (cW w F3 A3 L) 0 0 64 [some (.ref 1414), some (.ref 1), some (.int (nI s)), some (.int (nrW t en p s)), some (.int (nI u)), some (.int z)] [] := by
    intro s p3 x F3 A3 Ls z hs hPP hFr f2 hj3 u3 old3 co3
    have r3 : F3 1414 1 = nI r := (hFr.2.2.1 1 (by decide)).trans h1
    have a3 : ∀ q, q ≠ 1419 → A3 q = A q := hFr.2.2.2
    refine x_al rfl rfl ?_
    refine x_getC rfl hn (by with_reducible exact te_0 (by first | assumption | exact teA (by omega) | exact teN | exact teD | exact te_b (by assumption) | exact teB (by assumption) (by omega))) (by exact rfl) ?_
    refine x_al rfl rfl ?_
    refine x_getC rfl hn (by with_reducible exact te_0 (by first | assumption | exact teA (by omega) | exact teN | exact teD | exact te_b (by assumption) | exact teB (by assumption) (by omega))) (by exact rfl) ?_
    rw [r3]
    refine x_il rfl rfl ?_
    refine x_iasC rfl hn (by with_reducible exact te_1 (by first | assumption | exact teA (by omega) | exact teN | exact teD | exact te_b (by assumption) | exact teB (by assumption) (by omega))) (by omega) ?_
    refine x_al rfl rfl ?_
    refine x_getC rfl hn (by with_reducible exact te_0 (by first | assumption | exact teA (by omega) | exact teN | exact teD | exact te_b (by assumption) | exact teB (by assumption) (by omega))) (by exact rfl) ?_
    refine x_al rfl rfl ?_
    refine x_getC rfl hn (by with_reducible exact te_0 (by first | assumption | exact teA (by omega) | exact teN | exact teD | exact te_b (by assumption) | exact teB (by assumption) (by omega))) (by exact rfl) ?_
    rw [r3]
    refine x_il rfl rfl ?_
    refine x_iasC rfl hn (by with_reducible exact te_2 (by first | assumption | exact teA (by omega) | exact teN | exact teD | exact te_b (by assumption) | exact teB (by assumption) (by omega))) (by omega) ?_
    refine x_al rfl rfl ?_
    refine x_getC rfl hn (by with_reducible exact te_0 (by first | assumption | exact teA (by omega) | exact teN | exact teD | exact te_b (by assumption) | exact teB (by assumption) (by omega))) (by exact rfl) ?_
    refine x_al rfl rfl ?_
    refine x_getC rfl hn (by with_reducible exact te_0 (by first | assumption | exact teA (by omega) | exact teN | exact teD | exact te_b (by assumption) | exact teB (by assumption) (by omega))) (by exact rfl) ?_
    rw [r3]
    refine x_il rfl rfl ?_
    refine x_iasC rfl hn (by with_reducible exact te_3 (by first | assumption | exact teA (by omega) | exact teN | exact teD | exact te_b (by assumption) | exact teB (by assumption) (by omega))) (by omega) ?_
    refine x_al rfl rfl ?_
    refine x_getC rfl hn (by with_reducible exact te_0 (by first | assumption | exact teA (by omega) | exact teN | exact teD | exact te_b (by assumption) | exact teB (by assumption) (by omega))) (by exact rfl) ?_
    refine x_al rfl rfl ?_
    refine x_getC rfl hn (by with_reducible exact te_0 (by first | assumption | exact teA (by omega) | exact teN | exact teD | exact te_b (by assumption) | exact teB (by assumption) (by omega))) (by exact rfl) ?_
    rw [r3]
    refine x_al rfl rfl ?_
    refine x_getC rfl hn (by with_reducible exact te_0 (by first | assumption | exact teA (by omega) | exact teN | exact teD | exact te_b (by assumption) | exact teB (by assumption) (by omega))) (by exact rfl) ?_
    rw [u3]
    refine x_iasC rfl hn (by with_reducible exact te_4 (by first | assumption | exact teA (by omega) | exact teN | exact teD | exact te_b (by assumption) | exact teB (by assumption) (by omega))) (by omega) ?_
    refine x_al rfl rfl ?_
    refine x_dup rfl rfl ?_
    refine x_getC rfl hn (by with_reducible exact te_0 (by first | assumption | exact teA (by omega) | exact teN | exact teD | exact te_b (by assumption) | exact teB (by assumption) (by omega))) (by exact rfl) ?_
    rw [r3]
    refine x_c rfl ?_
    refine x_addN (y := 1) rfl ?_
    refine x_putC rfl hn (by with_reducible exact te_0 (by first | assumption | exact teA (by omega) | exact teN | exact teD | exact te_b (by assumption) | exact teB (by assumption) (by omega))) (by exact rfl) (by first | rfl | exact nr_z (by assumption)) (by first | rfl | exact fi_z _) ?_
    refine x_c rfl ?_
    refine x_retz rfl (Nat.le_of_ble_eq_true rfl) (Nat.le_of_ble_eq_true rfl) rfl (by first | rfl | assumption | exact bI_01 _) ?_
    subst hPP
    refine ⟨rfl, _, _, rfl, ⟨fun q h1 h2 => by rw [udA_ne h2]; exact hFr.1 q h1 h2, fun k h1 h2 => by rw [udA_ne (by decide)]; exact hFr.2.1 k h1 h2, ?_, fun q hq => ?_⟩, fun h => absurd h (by show ¬ true = false; decide), fun _ => ⟨?_, ?_, ?_, ?_, ⟨s, hs, ?_, ?_, ?_, ?_⟩, fun i hi => ?_, ?_⟩⟩
    · rw [udA_t, upd_ne (by decide)]; exact hFr.2.2.1 0 (by decide)
    · rw [udA_ne (show q ≠ 1414 + 4 by omega), udA_ne (show q ≠ 1414 + 3 by omega), udA_ne (show q ≠ 1414 + 2 by omega), udA_ne (show q ≠ 1414 + 1 by omega)]
      exact a3 q (by omega)
    · rw [udA_ne (by decide)]; exact f2
    · obtain ⟨j3, g7, gj, gp⟩ := hj3
      exact ⟨j3, by rw [udA_ne (by decide)]; exact g7, gj, gp⟩
    · rw [udA_t, upd_at]
    · rw [udA_t, upd_ne (by decide)]; exact u3
    · rw [udA_ne (show 1415 ≠ 1414 + 4 by decide), udA_ne (show 1415 ≠ 1414 + 3 by decide), udA_ne (show 1415 ≠ 1414 + 2 by decide), ← a3 1415 (by decide)]
      exact udA_t
    · rw [udA_ne (show 1416 ≠ 1414 + 4 by decide), udA_ne (show 1416 ≠ 1414 + 3 by decide), ← a3 1416 (by decide)]
      refine udA_t.trans ?_
      rw [udA_ne (show 1414 + 2 ≠ 1414 + 1 by decide)]
    · rw [udA_ne (show 1417 ≠ 1414 + 4 by decide), ← a3 1417 (by decide)]
      refine udA_t.trans ?_
      rw [udA_ne (show 1414 + 3 ≠ 1414 + 2 by decide), udA_ne (show 1414 + 3 ≠ 1414 + 1 by decide)]
    · rw [← a3 1418 (by decide)]
      refine udA_t.trans ?_
      rw [udA_ne (show 1414 + 4 ≠ 1414 + 3 by decide), udA_ne (show 1414 + 4 ≠ 1414 + 2 by decide), udA_ne (show 1414 + 4 ≠ 1414 + 1 by decide)]
    · rw [udA_ne (show 1419 ≠ 1414 + 4 by decide), udA_ne (show 1419 ≠ 1414 + 3 by decide), udA_ne (show 1419 ≠ 1414 + 2 by decide), udA_ne (show 1419 ≠ 1414 + 1 by decide)]
      exact old3 i hi
    · rw [udA_ne (show 1419 ≠ 1414 + 4 by decide), udA_ne (show 1419 ≠ 1414 + 3 by decide), udA_ne (show 1419 ≠ 1414 + 2 by decide), udA_ne (show 1419 ≠ 1414 + 1 by decide)]
      exact co3
  have l28 : ∀ (s p2 x : Nat) (F2 : Nat → Nat → Int32) (j2 : Nat), s < 6 → sortW t en p = some s → P = pRest t en p2 s x → FrP F A F2 A → F2 1 2 = F 1 2 → F2 1 7 = nI j2 → j2 ≤ n → wS t en (PP t b en j2) = wS t en p2 → p2 ≤ en → F2 1414 2 = nI u → u ≤ p2 → EX g mbOf (Ev g (d + 37)) (infoOf 44) k_X5_readRule (RQC w F A L t b en n u r p P) noX w.1 (cW w F2 A L) 0 0 28 [some (.ref 1414), some (.ref 1), some (.int (nI s)), some (.int (nrW t en p s)), none, none] [] := by
    intro s p2 x F2 j2 h6 hs hPP hFr f2 g7 gj gp gpe u2 hup
    have hT2 := hFr.tk hT
    have l48 : ∀ fl : Int32, ¬ (s = 2 ∨ s = 3) → (s = 4 ↔ fl = 0) → EX g mbOf (Ev g (d + 37)) (infoOf 44) k_X5_readRule (RQC w F A L t b en n u r p P) noX w.1 (cW w F2 A L) 0 0 48 [some (.ref 1414), some (.ref 1), some (.int (nI s)), some (.int (nrW t en p s)), some (.int (nI u)), some (.int fl)] [] := by
      intro fl h23 hfl
      unfold pRest pIf at hPP
      rw [if_neg h23] at hPP
      have hw : tokV t b en (wS t en p2) = 6 ↔ wdB t (wE t en p2) (wS t en p2) 7 = true := tok_word (i := 6) hB gpe (by decide)
      have e1 : wE t en p2 ≤ en := wE_le gpe
      have e3 := wS_ge (t := t) (en := en) (p := p2)
      have e4 := wE_ge (t := t) (en := en) (p := p2)
      refine x_al rfl rfl ?_
      refine x_c rfl ?_
      refine x_call2 (c_takeT hT2 g7 gj gp hn4 hn) rfl (Nat.le_of_ble_eq_true rfl) (Or.inl (by first | exact hn | assumption)) (rcv_at (cw_fs (by with_reducible exact sp_1) hn) (by decide) (by decide)) (Nat.le_of_ble_eq_true rfl) (Nat.le_of_ble_eq_true rfl) (fun E w9 hq => hq.elim) ?_
      rintro v9 w9 hh
      rcases hh with ⟨k1, rfl, rfl⟩ | ⟨k1, rfl, rfl⟩
      · have hw1 := hw.mp k1
        rw [if_pos hw1] at hPP
        obtain ⟨d1, d2⟩ := pos_word (i := 6) hB hT2 gj gp gpe (by decide) hw1
        have hFr2 : FrP F A (udA F2 1 (upd (F2 1) 7 (nI (j2 + 1)))) A := hFr.trans (FrP.f1 (by omega))
        refine x_ifeq rfl (fun e9 => absurd e9 (show ¬ (1 : Int32) = 0 by decide)) (fun e9 => ?_)
        refine x_al rfl rfl ?_
        refine x_al rfl rfl ?_
        refine x_c rfl ?_
        refine x_call3 (c_cond hB hen hn4 w (udA F2 1 (upd (F2 1) 7 (nI (j2 + 1)))) A L (wE t en p2) (j2 + 1) u hn (hFr2.tk hT) (by rw [udA_t, upd_at]) d1 d2 e1 (by rw [udA_ne (by decide)]; exact u2) (by omega)) rfl (Nat.le_of_ble_eq_true rfl) (Or.inl (by first | exact hn | assumption)) (rcv_at (cw_fs (by with_reducible exact te_0 (by first | assumption | exact teA (by omega) | exact teN | exact teD | exact te_b (by assumption) | exact teB (by assumption) (by omega))) hn) (by decide) (by decide)) (Nat.le_of_ble_eq_true rfl) (Nat.le_of_ble_eq_true rfl) (fun E w9 hq => hq.elim) ?_
        rintro v9 w9 ⟨rfl, F3, A3, rfl, a1, a2, a3⟩
        cases hok : (pCond t en 6 (wE t en p2)).1 with
        | false =>
          rw [if_neg (by rw [hok]; decide)] at hPP
          refine x_ifne rfl (fun e9 => absurd rfl e9) (fun e9 => ?_)
          refine x_c rfl ?_
          refine x_retz rfl (Nat.le_of_ble_eq_true rfl) (Nat.le_of_ble_eq_true rfl) rfl (by first | rfl | assumption | exact bI_01 _) ?_
          exact RQ_f hPP (hFr2.trans a1).u (a2 hok)
        | true =>
          rw [if_pos hok] at hPP
          obtain ⟨f3, hj3, u3, old3, co3⟩ := a3 hok
          refine x_ifne rfl (fun e9 => ?_) (fun e9 => absurd e9 (show ¬ (1 : Int32) = 0 by decide))
          refine l64 s _ (pCond t en 6 (wE t en p2)).2.2.1 F3 A3 _ fl hs ?_ (hFr2.trans a1) ?_ hj3 u3 old3 co3
          · rw [hPP, ← hok]
          · rw [f3, udA_t, upd_ne (by decide)]; exact f2
      · rw [if_neg (fun h => k1 (hw.mpr h))] at hPP
        refine x_ifeq rfl (fun e9 => ?_) (fun e9 => absurd rfl e9)
        refine x_il rfl rfl ?_
        by_cases hf : s = 4
        · refine x_ifeq rfl (fun e9 => ?_) (fun e9 => absurd (hfl.mp hf) e9)
          rw [decide_eq_true hf] at hPP
          exact l64 s _ _ F2 A [] fl hs hPP hFr f2 ⟨j2, g7, gj, gp.trans (runs_idem gpe).symm⟩ u2 (fun _ _ => rfl) CoR.nil
        · refine x_ifeq rfl (fun e9 => absurd (hfl.mpr e9) hf) (fun e9 => ?_)
          refine x_al rfl rfl ?_
          refine x_call1 (c_fail hT2 g7 gj gp hn4 hn) rfl (Nat.le_of_ble_eq_true rfl) (Or.inl (by first | exact hn | assumption)) (rcv_at (cw_fs (by with_reducible exact sp_1) hn) (by decide) (by decide)) (Nat.le_of_ble_eq_true rfl) (Nat.le_of_ble_eq_true rfl) (fun E w9 hq => hq.elim) ?_
          rintro v9 w9 ⟨rfl, rfl⟩
          refine x_retz rfl (Nat.le_of_ble_eq_true rfl) (Nat.le_of_ble_eq_true rfl) rfl (by first | rfl | assumption | exact bI_01 _) ?_
          rw [decide_eq_false hf] at hPP
          exact RQ_f hPP (hFr.trans (FrP.f1 (by omega))).u (by rw [udA_t, upd_at])
    have l23 : (s = 2 ∨ s = 3) → EX g mbOf (Ev g (d + 37)) (infoOf 44) k_X5_readRule (RQC w F A L t b en n u r p P) noX w.1 (cW w F2 A L) 0 0 64 [some (.ref 1414), some (.ref 1), some (.int (nI s)), some (.int (nrW t en p s)), some (.int (nI u)), some (.int 0)] [] := by
      intro h23
      unfold pRest at hPP
      rw [if_pos h23] at hPP
      exact l64 s _ _ F2 A [] 0 hs hPP hFr f2 ⟨j2, g7, gj, gp⟩ u2 (fun _ _ => rfl) CoR.nil
    refine x_al rfl rfl ?_
    refine x_getC rfl hn (by with_reducible exact te_0 (by first | assumption | exact teA (by omega) | exact teN | exact teD | exact te_b (by assumption) | exact teB (by assumption) (by omega))) (by exact rfl) ?_
    rw [u2]
    refine x_is (lo' := [_, _, _, _, _, _]) rfl (Nat.le_of_ble_eq_true rfl) rfl ?_
    refine x_il rfl rfl ?_
    rcases (show s = 0 ∨ s = 1 ∨ s = 2 ∨ s = 3 ∨ s = 4 ∨ s = 5 by omega) with rfl | rfl | rfl | rfl | rfl | rfl
    · refine x_ifeq rfl (fun e9 => ?_) (fun e9 => absurd rfl e9)
      refine x_c rfl ?_
      refine x_go rfl ?_
      refine x_is (lo' := [_, _, _, _, _, _]) rfl (Nat.le_of_ble_eq_true rfl) rfl ?_
      refine x_il rfl rfl ?_
      refine x_ifne rfl (fun e9 => ?_) (fun e9 => absurd e9 (show ¬ (1 : Int32) = 0 by decide))
      exact l48 1 (by decide) (by decide)
    · refine x_ifeq rfl (fun e9 => absurd e9 (show ¬ nI 1 = 0 by decide)) (fun e9 => ?_)
      refine x_il rfl rfl ?_
      refine x_c rfl ?_
      refine x_iceq rfl (fun e9 => ?_) (fun e9 => absurd rfl e9)
      refine x_c rfl ?_
      refine x_go rfl ?_
      refine x_is (lo' := [_, _, _, _, _, _]) rfl (Nat.le_of_ble_eq_true rfl) rfl ?_
      refine x_il rfl rfl ?_
      refine x_ifne rfl (fun e9 => ?_) (fun e9 => absurd e9 (show ¬ (1 : Int32) = 0 by decide))
      exact l48 1 (by decide) (by decide)
    · refine x_ifeq rfl (fun e9 => absurd e9 (show ¬ nI 2 = 0 by decide)) (fun e9 => ?_)
      refine x_il rfl rfl ?_
      refine x_c rfl ?_
      refine x_iceq rfl (fun e9 => absurd e9 (show ¬ nI 2 = 1 by decide)) (fun e9 => ?_)
      refine x_il rfl rfl ?_
      refine x_c rfl ?_
      refine x_icne rfl (fun e9 => ?_) (fun e9 => absurd e9 (show ¬ nI 2 = 5 by decide))
      refine x_c rfl ?_
      refine x_is (lo' := [_, _, _, _, _, _]) rfl (Nat.le_of_ble_eq_true rfl) rfl ?_
      refine x_il rfl rfl ?_
      refine x_ifne rfl (fun e9 => absurd rfl e9) (fun e9 => ?_)
      refine x_il rfl rfl ?_
      refine x_c rfl ?_
      refine x_icne rfl (fun e9 => ?_) (fun e9 => absurd e9 (show ¬ nI 2 = 4 by decide))
      refine x_il rfl rfl ?_
      refine x_ifeq rfl (fun e9 => ?_) (fun e9 => absurd rfl e9)
      exact l23 (Or.inl rfl)
    · refine x_ifeq rfl (fun e9 => absurd e9 (show ¬ nI 3 = 0 by decide)) (fun e9 => ?_)
      refine x_il rfl rfl ?_
      refine x_c rfl ?_
      refine x_iceq rfl (fun e9 => absurd e9 (show ¬ nI 3 = 1 by decide)) (fun e9 => ?_)
      refine x_il rfl rfl ?_
      refine x_c rfl ?_
      refine x_icne rfl (fun e9 => ?_) (fun e9 => absurd e9 (show ¬ nI 3 = 5 by decide))
      refine x_c rfl ?_
      refine x_is (lo' := [_, _, _, _, _, _]) rfl (Nat.le_of_ble_eq_true rfl) rfl ?_
      refine x_il rfl rfl ?_
      refine x_ifne rfl (fun e9 => absurd rfl e9) (fun e9 => ?_)
      refine x_il rfl rfl ?_
      refine x_c rfl ?_
      refine x_icne rfl (fun e9 => ?_) (fun e9 => absurd e9 (show ¬ nI 3 = 4 by decide))
      refine x_il rfl rfl ?_
      refine x_ifeq rfl (fun e9 => ?_) (fun e9 => absurd rfl e9)
      exact l23 (Or.inr rfl)
    · refine x_ifeq rfl (fun e9 => absurd e9 (show ¬ nI 4 = 0 by decide)) (fun e9 => ?_)
      refine x_il rfl rfl ?_
      refine x_c rfl ?_
      refine x_iceq rfl (fun e9 => absurd e9 (show ¬ nI 4 = 1 by decide)) (fun e9 => ?_)
      refine x_il rfl rfl ?_
      refine x_c rfl ?_
      refine x_icne rfl (fun e9 => ?_) (fun e9 => absurd e9 (show ¬ nI 4 = 5 by decide))
      refine x_c rfl ?_
      refine x_is (lo' := [_, _, _, _, _, _]) rfl (Nat.le_of_ble_eq_true rfl) rfl ?_
      refine x_il rfl rfl ?_
      refine x_ifne rfl (fun e9 => absurd rfl e9) (fun e9 => ?_)
      refine x_il rfl rfl ?_
      refine x_c rfl ?_
      refine x_icne rfl (fun e9 => absurd rfl e9) (fun e9 => ?_)
      exact l48 0 (by decide) (by decide)
    · refine x_ifeq rfl (fun e9 => absurd e9 (show ¬ nI 5 = 0 by decide)) (fun e9 => ?_)
      refine x_il rfl rfl ?_
      refine x_c rfl ?_
      refine x_iceq rfl (fun e9 => absurd e9 (show ¬ nI 5 = 1 by decide)) (fun e9 => ?_)
      refine x_il rfl rfl ?_
      refine x_c rfl ?_
      refine x_icne rfl (fun e9 => absurd rfl e9) (fun e9 => ?_)
      refine x_c rfl ?_
      refine x_go rfl ?_
      refine x_is (lo' := [_, _, _, _, _, _]) rfl (Nat.le_of_ble_eq_true rfl) rfl ?_
      refine x_il rfl rfl ?_
      refine x_ifne rfl (fun e9 => ?_) (fun e9 => absurd e9 (show ¬ (1 : Int32) = 0 by decide))
      exact l48 1 (by decide) (by decide)
  refine ev_X5_readRule ?_ (Nat.le_of_ble_eq_true rfl)
  refine x_lo (lo' := [some (.ref 1414), some (.ref 1), none, none, none, none]) rfl ?_
  refine x_al rfl rfl ?_
  refine x_call1 (c_token hT h7 hj hp hn4 hn) rfl (Nat.le_of_ble_eq_true rfl) (Or.inl (by first | exact hn | assumption)) (rcv_at (cw_fs (by with_reducible exact sp_1) hn) (by decide) (by decide)) (Nat.le_of_ble_eq_true rfl) (Nat.le_of_ble_eq_true rfl) (fun E w9 hq => hq.elim) ?_
  rintro v9 w9 ⟨rfl, rfl⟩
  refine x_is (lo' := [_, _, _, _, _, _]) rfl (Nat.le_of_ble_eq_true rfl) rfl ?_
  refine x_il rfl rfl ?_
  rcases tok_cases hB hpe with ⟨i, hi, e1, hwi, hl, hnx⟩ | ⟨k, k1, k2, e1, hno⟩
  rotate_left
  · rw [e1]
    refine x_iflt rfl (fun e9 => absurd e9 (nI_pos (by omega))) (fun e9 => ?_)
    refine x_il rfl rfl ?_
    refine x_c rfl ?_
    refine x_icgtN (y := 5) rfl (by omega) (fun e9 => ?_) (fun e9 => absurd e9 (by omega))
    exact l16 _ (sort_no hno)
  rw [e1]
  refine x_iflt rfl (fun e9 => absurd e9 (nI_pos (by omega))) (fun e9 => ?_)
  refine x_il rfl rfl ?_
  refine x_c rfl ?_
  by_cases h6 : 6 ≤ i
  · refine x_icgtN (y := 5) rfl (by omega) (fun e9 => ?_) (fun e9 => absurd e9 (by omega))
    exact l16 _ (sort_none h6 hi hwi)
  refine x_icgtN (y := 5) rfl (by omega) (fun c => by omega) (fun c => ?_)
  refine x_al rfl rfl ?_
  refine x_getC rfl hn (by with_reducible exact te_0 (by first | assumption | exact teA (by omega) | exact teN | exact teD | exact te_b (by assumption) | exact teB (by assumption) (by omega))) (by exact rfl) ?_
  rw [h1]
  refine x_c rfl ?_
  refine x_icgeN (y := 12) rfl (by omega) (fun c => by omega) (fun c => ?_)
  refine x_al rfl rfl ?_
  refine x_il rfl rfl ?_
  refine x_call2 (c_takeT hT h7 hj hp hn4 hn) rfl (Nat.le_of_ble_eq_true rfl) (Or.inl (by first | exact hn | assumption)) (rcv_at (cw_fs (by with_reducible exact sp_1) hn) (by decide) (by decide)) (Nat.le_of_ble_eq_true rfl) (Nat.le_of_ble_eq_true rfl) (fun E w9 hq => hq.elim) ?_
  rintro v9 w9 hh
  rcases hh with ⟨k1, rfl, rfl⟩ | ⟨k1, rfl, rfl⟩
  rotate_left
  · exact absurd e1 k1
  have hsort := sort_some hB hpe (show i < 6 by omega) hwi
  obtain ⟨d1, d2⟩ := pos_word hB hT hj hp hpe hi hwi
  have hFr2 : FrP F A (udA F 1 (upd (F 1) 7 (nI (j + 1)))) A := FrP.f1 (by omega)
  have e7 : udA F 1 (upd (F 1) 7 (nI (j + 1))) 1 7 = nI (j + 1) := by rw [udA_t, upd_at]
  have f2 : udA F 1 (upd (F 1) 7 (nI (j + 1))) 1 2 = F 1 2 := by rw [udA_t, upd_ne (by decide)]
  have fu : udA F 1 (upd (F 1) 7 (nI (j + 1))) 1414 2 = nI u := by rw [udA_ne (by decide)]; exact h2
  rw [hsort] at hP
  dsimp only at hP
  refine x_ifne rfl (fun e9 => ?_) (fun e9 => absurd e9 (show ¬ (1 : Int32) = 0 by decide))
  refine x_il rfl rfl ?_
  refine x_al rfl rfl ?_
  refine x_call2 (c_takeNumberOf (p := wE t en p) (s := i) (by omega) hB (hFr2.tk hT) e7 d1 d2 q1 hn4 hn) rfl (Nat.le_of_ble_eq_true rfl) (Or.inl (by first | exact hn | assumption)) trivial (Nat.le_of_ble_eq_true rfl) (Nat.le_of_ble_eq_true rfl) (fun E w9 hq => hq.elim) ?_
  rintro v9 w9 hh
  rcases hh with ⟨hs24, hh⟩ | ⟨hs24, rfl, rfl⟩
  · rw [if_pos hs24] at hP
    have enr : nrW t en p i = numR t en (wS t en (wE t en p)) (loS i) (hiS i) := if_pos hs24
    rcases hh with ⟨k3, rfl, rfl⟩ | ⟨k3, rfl, ⟨k4, k5⟩, rfl⟩
    · rw [if_pos k3] at hP
      refine x_is (lo' := [_, _, _, _, _, _]) rfl (Nat.le_of_ble_eq_true rfl) rfl ?_
      refine x_il rfl rfl ?_
      refine x_c rfl ?_
      refine x_icne rfl (fun e9 => absurd rfl e9) (fun e9 => ?_)
      refine x_c rfl ?_
      refine x_retz rfl (Nat.le_of_ble_eq_true rfl) (Nat.le_of_ble_eq_true rfl) rfl (by first | rfl | assumption | exact bI_01 _) ?_
      exact RQ_f hP.symm (hFr2.trans (FrP.f1 (by omega))).u (by rw [udA_t, upd_at])
    · rw [if_neg k3] at hP
      rw [← enr]
      rw [← enr] at k3
      refine x_is (lo' := [_, _, _, _, _, _]) rfl (Nat.le_of_ble_eq_true rfl) rfl ?_
      refine x_il rfl rfl ?_
      refine x_c rfl ?_
      refine x_icne rfl (fun e9 => ?_) (fun e9 => (k3 (by rw [e9]; decide)).elim)
      have g1 : wS t en (wE t en p) ≤ en := wS_le q1
      have g2 : wS t en (wE t en p) ≤ runs t en 48 57 (wS t en (wE t en p)) := runs_ge
      have g3 := wS_ge (t := t) (en := en) (p := wE t en p)
      refine l28 i (runs t en 48 57 (wS t en (wE t en p))) (wS t en (wE t en p)) _ (j + 1 + 1) (by omega) hsort ?_ (hFr2.trans (FrP.f1 (k := 7) (by omega))) (by rw [udA_t, upd_ne (by decide)]; exact f2) (by rw [udA_t, upd_at]) k4 k5 (runs_le g1) (by rw [udA_ne (by decide)]; exact fu) (by omega)
      rw [← hP]
      unfold pRest
      by_cases h4 : i = 4
      · rw [if_pos h4, if_neg (by omega)]
      · rw [if_neg h4, if_pos (by omega)]
  · rw [if_neg hs24] at hP
    have enr : nrW t en p i = 0 := if_neg hs24
    rw [← enr]
    refine x_is (lo' := [_, _, _, _, _, _]) rfl (Nat.le_of_ble_eq_true rfl) rfl ?_
    refine x_il rfl rfl ?_
    refine x_c rfl ?_
    refine x_icne rfl (fun e9 => ?_) (fun e9 => absurd (enr.symm.trans e9) (by decide))
    refine l28 i (wE t en p) 0 _ (j + 1) (by omega) hsort ?_ hFr2 f2 e7 d1 d2 q1 fu (by omega)
    rw [← hP]
    unfold pRest
    rw [if_neg (by omega)]
end READ
