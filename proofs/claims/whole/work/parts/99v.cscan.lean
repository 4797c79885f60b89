/-! the class makes tokens; cw_ -/
def TkS (F A F1 A1 : Nat → Nat → Int32) (t : Nat → Int32) (b : Nat → Nat) (en k : Nat) : Prop := (∀ q, q ≠ 1 → F1 q = F q) ∧ (F1 1 1 = nI en ∧ F1 1 2 = -1 ∧ F1 1 6 = nI k ∧ F1 1 7 = 0) ∧ (∀ q, q ≠ 3 → q ≠ 4 → q ≠ 5 → A1 q = A q) ∧ ∀ i, i < k → wS t en (PP t b en i) < en ∧ A1 3 i = tkF t b en (wS t en (PP t b en i)) ∧ A1 4 i = nI (wS t en (PP t b en i)) ∧ A1 5 i = vaF t b en (wS t en (PP t b en i))
theorem TkS.add {F A F1 A1 : Nat → Nat → Int32} {t : Nat → Int32} {b : Nat → Nat} {en k s : Nat} (h : TkS F A F1 A1 t b en k) (hs : wS t en (PP t b en k) = s) (hl : s < en) : TkS F A (udA F1 1 (upd (F1 1) 6 (nI (k + 1)))) (udA (udA (udA A1 3 (upd (A1 3) k (tkF t b en s))) 4 (upd (A1 4) k (nI s))) 5 (upd (A1 5) k (vaF t b en s))) t b en (k + 1) := by
  obtain ⟨h1, ⟨h2, h3, h4, h5⟩, h6, h7⟩ := h
  refine ⟨fun q hq => by rw [udA_ne hq]; exact h1 q hq, ⟨?_, ?_, ?_, ?_⟩, fun q a b c => by rw [udA_ne c, udA_ne b, udA_ne a]; exact h6 q a b c, fun i hi => ?_⟩
  · rw [udA_t, upd_ne (by decide)]; exact h2
  · rw [udA_t, upd_ne (by decide)]; exact h3
  · rw [udA_t, upd_at]
  · rw [udA_t, upd_ne (by decide)]; exact h5
  · rw [udA_ne (show 3 ≠ 5 by decide), udA_ne (show 3 ≠ 4 by decide), udA_ne (show 4 ≠ 5 by decide), udA_t, udA_t, udA_t]
    by_cases e : i = k
    · subst e
      rw [upd_at, upd_at, upd_at, hs]
      exact ⟨hl, rfl, rfl, rfl⟩
    · rw [upd_ne e, upd_ne e, upd_ne e]
      exact h7 i (by omega)
section K
variable {t c : Nat → Int32} {en : Nat} {b : Nat → Nat}
theorem nx_ok (h : TpR t c en b) {s : Nat} (hs : s < en) : s < nxF t b en s ∧ nxF t b en s ≤ en := by
  unfold nxF
  by_cases h1 : 97 ≤ b s ∧ b s ≤ 122
  · rw [if_pos h1]
    exact ⟨runs_lt ⟨hs, (h.rng hs (x := 97) (y := 122) (by omega) (by omega)).mpr h1⟩, runs_le (by omega)⟩
  · rw [if_neg h1]
    by_cases h2 : 48 ≤ b s ∧ b s ≤ 57
    · rw [if_pos h2]
      exact ⟨runs_lt ⟨hs, (h.rng hs (x := 48) (y := 57) (by omega) (by omega)).mpr h2⟩, runs_le (by omega)⟩
    · rw [if_neg h2]; omega
/-- a word or a number goes on just up to its end -/
theorem nx_go (h : TpR t c en b) {s q : Nat} (hs : s < en) (h1 : s < q) (h2 : q ≤ nxF t b en s) (h3 : q < en) : ((97 ≤ b s ∧ b s ≤ 122) ∧ (97 ≤ b q ∧ b q ≤ 122) ∨ (48 ≤ b s ∧ b s ≤ 57) ∧ (48 ≤ b q ∧ b q ≤ 57)) ↔ q < nxF t b en s := by
  unfold nxF at h2 ⊢
  by_cases l : 97 ≤ b s ∧ b s ≤ 122
  · rw [if_pos l] at h2 ⊢
    have hq := h.rng h3 (x := 97) (y := 122) (by omega) (by omega)
    constructor
    · intro h4
      rcases Nat.lt_or_ge q (runs t en 97 122 s) with h5 | h5
      · exact h5
      · have e : runs t en 97 122 s = q := by omega
        have := runs_stop (t := t) (en := en) (x := 97) (y := 122) s (by omega)
        rw [e] at this
        exact absurd ⟨h3, hq.mpr (by omega)⟩ this
    · intro h4
      have := hq.mp (runs_in (t := t) (en := en) (x := 97) (y := 122) s (by omega) q (by omega) h4)
      omega
  · rw [if_neg l] at h2 ⊢
    by_cases d : 48 ≤ b s ∧ b s ≤ 57
    · rw [if_pos d] at h2 ⊢
      have hq := h.rng h3 (x := 48) (y := 57) (by omega) (by omega)
      constructor
      · intro h4
        rcases Nat.lt_or_ge q (runs t en 48 57 s) with h5 | h5
        · exact h5
        · have e : runs t en 48 57 s = q := by omega
          have := runs_stop (t := t) (en := en) (x := 48) (y := 57) s (by omega)
          rw [e] at this
          exact absurd ⟨h3, hq.mpr (by omega)⟩ this
      · intro h4
        have := hq.mp (runs_in (t := t) (en := en) (x := 48) (y := 57) s (by omega) q (by omega) h4)
        omega
    · rw [if_neg d] at h2 ⊢
      constructor <;> intro h4 <;> omega
theorem tk_20 {s : Nat} (hb : b s < 256) : tkF t b en s = 20 ↔ (48 ≤ b s ∧ b s ≤ 57) := by
  unfold tkF
  by_cases l : 97 ≤ b s ∧ b s ≤ 122
  · rw [if_pos l]
    constructor
    · intro h
      exfalso
      have h2 : (fiW t (runs t en 97 122 s) s WL 0).getD 22 = 20 := by
        match e : fiW t (runs t en 97 122 s) s WL 0 with
        | none => rw [e] at h; exact absurd h (by decide)
        | some i =>
          rw [e] at h
          have := (fiW_s _ _ _ e).2.2
          have hl : WL.length = 19 := rfl
          exact (nI_eq (a := i) (b := 20) (by omega) (by omega)).mp h
      match e : fiW t (runs t en 97 122 s) s WL 0 with
      | none => rw [e] at h2; exact absurd h2 (by decide)
      | some i =>
        rw [e] at h2
        have h2 : i = 20 := h2
        have := (fiW_s _ _ _ e).2.2
        have hl : WL.length = 19 := rfl
        omega
    · intro h; omega
  · rw [if_neg l]
    by_cases d : 48 ≤ b s ∧ b s ≤ 57
    · rw [if_pos d]
      exact ⟨fun _ => d, fun _ => rfl⟩
    · rw [if_neg d]
      constructor
      · intro h
        have := (nI_eq (a := 100 + b s) (b := 20) (by omega) (by omega)).mp h
        omega
      · intro h; exact absurd h d
end K
section CALLS
variable {g : aG} {d : Nat} {w : aW} {F A : Nat → Nat → Int32} {L : Nat → Int64}
theorem c_addToken {t : Nat → Int32} {b : Nat → Nat} {en s k : Nat} (hT : HTx g) (hB : TpR t (A 2) en b) (hs : s < en) (hen : en ≤ 400) (h6 : F 1 6 = nI k) (hk : k < 400) (hn : w.1 = N0) : Ev g (d + 7) 101 [.ref 1, .int (nI s), .int (nI (nxF t b en s))] (cW w F A L) (VoidQ (cW w (udA F 1 (upd (F 1) 6 (nI (k + 1)))) (udA (udA (udA A 3 (upd (A 3) k (tkF t b en s))) 4 (upd (A 4) k (nI s))) 5 (upd (A 5) k (vaF t b en s))) L)) noX := by
  obtain ⟨hb1, hb2, hb3⟩ := hB s hs
  have hB2 : ∀ X Y, TpR t (udA (udA A 3 X) 4 Y 2) en b := fun X Y => by rw [udA_ne (by decide), udA_ne (by decide)]; exact hB
  have hnx := nx_ok hB hs
  have tail : ∀ tok, tok = tkF t b en s → EX g mbOf (Ev g (d + 6)) (infoOf 101) k_X9_addToken (VoidQ (cW w (udA F 1 (upd (F 1) 6 (nI (k + 1)))) (udA (udA (udA A 3 (upd (A 3) k (tkF t b en s))) 4 (upd (A 4) k (nI s))) 5 (upd (A 5) k (vaF t b en s))) L)) noX w.1 (cW w F A L) 0 0 34 [some (.ref 1), some (.int (nI s)), some (.int (nI (nxF t b en s))), some (.int tok)] [] := by
    rintro _ rfl
    refine x_al rfl rfl ?_
    refine x_getC rfl hn (by with_reducible exact sp_1) (by exact rfl) ?_
    refine x_al rfl rfl ?_
    refine x_getC rfl hn (by with_reducible exact sp_1) (by exact rfl) ?_
    rw [h6]
    refine x_il rfl rfl ?_
    refine x_iasC rfl hn (by with_reducible exact sp_3) (by omega) ?_
    refine x_al rfl rfl ?_
    refine x_getC rfl hn (by with_reducible exact sp_1) (by exact rfl) ?_
    refine x_al rfl rfl ?_
    refine x_getC rfl hn (by with_reducible exact sp_1) (by exact rfl) ?_
    rw [h6]
    refine x_il rfl rfl ?_
    refine x_iasC rfl hn (by with_reducible exact sp_4) (by omega) ?_
    refine x_al rfl rfl ?_
    refine x_getC rfl hn (by with_reducible exact sp_1) (by exact rfl) ?_
    refine x_al rfl rfl ?_
    refine x_getC rfl hn (by with_reducible exact sp_1) (by exact rfl) ?_
    rw [h6]
    refine x_il rfl rfl ?_
    refine x_c rfl ?_
    by_cases hd : 48 ≤ b s ∧ b s ≤ 57
    · refine x_icne rfl (fun e9 => absurd ((tk_20 hb1).mpr hd) e9) (fun e9 => ?_)
      refine x_al rfl rfl ?_
      refine x_il rfl rfl ?_
      refine x_il rfl rfl ?_
      have ee : nxF t b en s = runs t en 48 57 s := by
        unfold nxF
        rw [if_neg (by omega), if_pos hd]
      have ev : vaF t b en s = vlF t en s (runs t en 48 57 s) := if_pos hd
      rw [ee]
      refine x_call3 (c_valueOf (s := s) (hB2 _ _) (by omega) hen hn) rfl (Nat.le_of_ble_eq_true rfl) (Or.inl (by first | exact hn | assumption)) (rcv_at (cw_fs (by with_reducible exact sp_1) hn) (by decide) (by decide)) (Nat.le_of_ble_eq_true rfl) (Nat.le_of_ble_eq_true rfl) (fun E w9 hq => hq.elim) ?_
      rintro v9 w9 ⟨rfl, rfl⟩
      refine x_go rfl ?_
      refine x_iasC rfl hn (by with_reducible exact sp_5) (by omega) ?_
      refine x_al rfl rfl ?_
      refine x_dup rfl rfl ?_
      refine x_getC rfl hn (by with_reducible exact sp_1) (by exact rfl) ?_
      rw [h6]
      refine x_c rfl ?_
      refine x_addN (y := 1) rfl ?_
      refine x_putC rfl hn (by with_reducible exact sp_1) (by exact rfl) (by first | rfl | exact nr_z (by assumption)) (by first | rfl | exact fi_z _) ?_
      refine x_retv rfl (Nat.le_of_ble_eq_true rfl) (Nat.le_of_ble_eq_true rfl) rfl ?_
      simp only [udA_ne (show 4 ≠ 3 by decide), udA_ne (show 5 ≠ 4 by decide), udA_ne (show 5 ≠ 3 by decide)]
      rw [← ev]
      exact ⟨rfl, rfl⟩
    · refine x_icne rfl (fun e9 => ?_) (fun e9 => absurd ((tk_20 hb1).mp e9) hd)
      refine x_c rfl ?_
      refine x_iasC rfl hn (by with_reducible exact sp_5) (by omega) ?_
      refine x_al rfl rfl ?_
      refine x_dup rfl rfl ?_
      refine x_getC rfl hn (by with_reducible exact sp_1) (by exact rfl) ?_
      rw [h6]
      refine x_c rfl ?_
      refine x_addN (y := 1) rfl ?_
      refine x_putC rfl hn (by with_reducible exact sp_1) (by exact rfl) (by first | rfl | exact nr_z (by assumption)) (by first | rfl | exact fi_z _) ?_
      refine x_retv rfl (Nat.le_of_ble_eq_true rfl) (Nat.le_of_ble_eq_true rfl) rfl ?_
      have ev : vaF t b en s = -1 := if_neg hd
      simp only [udA_ne (show 4 ≠ 3 by decide), udA_ne (show 5 ≠ 4 by decide), udA_ne (show 5 ≠ 3 by decide)]
      rw [← ev]
      exact ⟨rfl, rfl⟩
  have l26 : ¬ (97 ≤ b s ∧ b s ≤ 122) → EX g mbOf (Ev g (d + 6)) (infoOf 101) k_X9_addToken (VoidQ (cW w (udA F 1 (upd (F 1) 6 (nI (k + 1)))) (udA (udA (udA A 3 (upd (A 3) k (tkF t b en s))) 4 (upd (A 4) k (nI s))) 5 (upd (A 5) k (vaF t b en s))) L)) noX w.1 (cW w F A L) 0 0 26 [some (.ref 1), some (.int (nI s)), some (.int (nI (nxF t b en s))), some (.int (nI (100 + b s)))] [] := by
    intro h
    refine x_al rfl rfl ?_
    refine x_getC rfl hn (by with_reducible exact sp_1) (by exact rfl) ?_
    refine x_il rfl rfl ?_
    refine x_iaC rfl hn (by with_reducible exact sp_2) (by omega) ?_
    rw [hb2]
    refine x_call1 (c_isDigit hb1) rfl (Nat.le_of_ble_eq_true rfl) (Or.inl (by first | exact hn | assumption)) trivial (Nat.le_of_ble_eq_true rfl) (Nat.le_of_ble_eq_true rfl) (fun E w9 hq => hq.elim) ?_
    rintro v9 w9 ⟨rfl, rfl⟩
    refine x_ifeqB rfl (fun c1 => ?_) (fun c1 => ?_)
    · skip
      exact tail _ (by unfold tkF; rw [if_neg h, if_neg c1])
    refine x_c rfl ?_
    refine x_is (lo' := [_, _, _, _]) rfl (Nat.le_of_ble_eq_true rfl) rfl ?_
    exact tail _ (by unfold tkF; rw [if_neg h, if_pos c1])
  refine ev_X9_addToken ?_ (Nat.le_of_ble_eq_true rfl)
  refine x_lo (lo' := [some (.ref 1), some (.int (nI s)), some (.int (nI (nxF t b en s))), none]) rfl ?_
  refine x_al rfl rfl ?_
  refine x_getC rfl hn (by with_reducible exact sp_1) (by exact rfl) ?_
  rw [h6]
  refine x_al rfl rfl ?_
  refine x_getC rfl hn (by with_reducible exact sp_1) (by exact rfl) ?_
  refine x_lenC rfl hn (by with_reducible exact sp_3) ?_
  refine x_icltN rfl (by omega) (fun e9 => ?_) (fun e9 => absurd e9 (by omega))
  refine x_c rfl ?_
  refine x_al rfl rfl ?_
  refine x_getC rfl hn (by with_reducible exact sp_1) (by exact rfl) ?_
  refine x_il rfl rfl ?_
  refine x_iaC rfl hn (by with_reducible exact sp_2) (by omega) ?_
  rw [hb2]
  refine x_addN (x := 100) rfl ?_
  refine x_is (lo' := [_, _, _, _]) rfl (Nat.le_of_ble_eq_true rfl) rfl ?_
  refine x_al rfl rfl ?_
  refine x_getC rfl hn (by with_reducible exact sp_1) (by exact rfl) ?_
  refine x_il rfl rfl ?_
  refine x_iaC rfl hn (by with_reducible exact sp_2) (by omega) ?_
  rw [hb2]
  refine x_call1 (c_isLetter hb1) rfl (Nat.le_of_ble_eq_true rfl) (Or.inl (by first | exact hn | assumption)) trivial (Nat.le_of_ble_eq_true rfl) (Nat.le_of_ble_eq_true rfl) (fun E w9 hq => hq.elim) ?_
  rintro v9 w9 ⟨rfl, rfl⟩
  refine x_ifeqB rfl (fun c1 => ?_) (fun c1 => ?_)
  · skip
    exact l26 c1
  refine x_al rfl rfl ?_
  refine x_il rfl rfl ?_
  refine x_il rfl rfl ?_
  have ee : nxF t b en s = runs t en 97 122 s := if_pos c1
  rw [ee] at hnx
  rw [ee]
  refine x_call3 (c_wordToken (s := s) (e := runs t en 97 122 s) hT hB (by omega) hnx.2 hen hn) rfl (Nat.le_of_ble_eq_true rfl) (Or.inl (by first | exact hn | assumption)) (rcv_at (cw_fs (by with_reducible exact sp_1) hn) (by decide) (by decide)) (Nat.le_of_ble_eq_true rfl) (Nat.le_of_ble_eq_true rfl) (fun E w9 hq => hq.elim) ?_
  rintro v9 w9 ⟨rfl, rfl⟩
  refine x_is (lo' := [_, _, _, _]) rfl (Nat.le_of_ble_eq_true rfl) rfl ?_
  refine x_go rfl ?_
  rw [← ee]
  exact tail _ (by unfold tkF; rw [if_pos c1, ee])
theorem c_scan {t : Nat → Int32} {b : Nat → Nat} {en : Nat} (hT : HTx g) (hB : TpR t (A 2) en b) (h1 : F 1 1 = nI en) (hen : en ≤ 400) (hn : w.1 = N0) : Ev g (d + 8) 97 [.ref 1] (cW w F A L) (fun v w' => v = none ∧ ∃ n F1 A1, w' = cW w F1 A1 L ∧ TkS F A F1 A1 t b en n ∧ wS t en (PP t b en n) = en) noX := by
  have loop : ∀ m p, en - p ≤ m → p ≤ en → ∀ (k : Nat) (F1 A1 : Nat → Nat → Int32) (z2 : Option Value), k ≤ p → wS t en p = wS t en (PP t b en k) → TkS F A F1 A1 t b en k → EX g mbOf (Ev g (d + 7)) (infoOf 97) k_X9_scan (fun v w' => v = none ∧ ∃ n F1 A1, w' = cW w F1 A1 L ∧ TkS F A F1 A1 t b en n ∧ wS t en (PP t b en n) = en) noX w.1 (cW w F1 A1 L) 0 0 11 [some (.ref 1), some (.int (nI p)), z2] [] := by
    intro m
    induction m with
    | zero =>
      intro p hm hp k F1 A1 z2 hk hw hS
      have epn : p = en := by omega
      have e1 : F1 1 1 = nI en := hS.2.1.1
      refine x_il rfl rfl ?_
      refine x_al rfl rfl ?_
      refine x_getC rfl hn (by with_reducible exact sp_1) (by exact rfl) ?_
      rw [e1]
      refine x_icgeN rfl (by omega) (fun e9 => ?_) (fun e9 => absurd e9 (by omega))
      refine x_retv rfl (Nat.le_of_ble_eq_true rfl) (Nat.le_of_ble_eq_true rfl) rfl ?_
      exact ⟨rfl, k, F1, A1, rfl, hS, by rw [← hw, epn]; exact wS_e (Nat.le_refl _)⟩
    | succ m ih =>
      intro p hm hp k F1 A1 z2 hk hw hS
      have e1 : F1 1 1 = nI en := hS.2.1.1
      have eA : A1 2 = A 2 := hS.2.2.1 2 (by decide) (by decide) (by decide)
      refine x_il rfl rfl ?_
      refine x_al rfl rfl ?_
      refine x_getC rfl hn (by with_reducible exact sp_1) (by exact rfl) ?_
      rw [e1]
      refine x_icgeN rfl (by omega) (fun c0 => ?_) (fun c0 => ?_)
      · refine x_retv rfl (Nat.le_of_ble_eq_true rfl) (Nat.le_of_ble_eq_true rfl) rfl ?_
        exact ⟨rfl, k, F1, A1, rfl, hS, by rw [← hw, show p = en by omega]; exact wS_e (Nat.le_refl _)⟩
      refine x_il rfl rfl ?_
      refine x_c rfl ?_
      refine x_addN (y := 1) rfl ?_
      refine x_is (lo' := [_, _, _]) rfl (Nat.le_of_ble_eq_true rfl) rfl ?_
      obtain ⟨b1, b2, b3⟩ := hB p c0
      obtain ⟨x1, x2⟩ := nx_ok hB c0
      have l45 : ∀ k' F2 A2, k' ≤ nxF t b en p → wS t en (nxF t b en p) = wS t en (PP t b en k') → TkS F A F2 A2 t b en k' → EX g mbOf (Ev g (d + 7)) (infoOf 97) k_X9_scan (fun v w' => v = none ∧ ∃ n F1 A1, w' = cW w F1 A1 L ∧ TkS F A F1 A1 t b en n ∧ wS t en (PP t b en n) = en) noX w.1 (cW w F2 A2 L) 0 0 45 [some (.ref 1), some (.int (nI p)), some (.int (nI (nxF t b en p)))] [] := by
        intro k' F2 A2 q1 q2 q3
        refine x_il rfl rfl ?_
        refine x_is (lo' := [_, _, _]) rfl (Nat.le_of_ble_eq_true rfl) rfl ?_
        refine x_go rfl ?_
        exact ih _ (by omega) x2 k' F2 A2 _ q1 q2 q3
      have l35 : EX g mbOf (Ev g (d + 7)) (infoOf 97) k_X9_scan (fun v w' => v = none ∧ ∃ n F1 A1, w' = cW w F1 A1 L ∧ TkS F A F1 A1 t b en n ∧ wS t en (PP t b en n) = en) noX w.1 (cW w F1 A1 L) 0 0 35 [some (.ref 1), some (.int (nI p)), some (.int (nI (nxF t b en p)))] [] := by
        refine x_al rfl rfl ?_
        refine x_getC rfl hn (by with_reducible exact sp_1) (by exact rfl) ?_
        refine x_il rfl rfl ?_
        refine x_iaC rfl hn (by with_reducible exact sp_2) (by omega) ?_
        rw [show A1 2 p = nI (b p) by rw [eA]; exact b2]
        refine x_c rfl ?_
        refine x_iceqN (y := 32) rfl (by omega) (fun c1 => ?_) (fun c1 => ?_)
        · skip
          have en1 : nxF t b en p = p + 1 := by
            unfold nxF
            rw [if_neg (by omega), if_neg (by omega)]
          exact l45 k F1 A1 (by omega) (by rw [en1, ← wS_b hB c0 c1]; exact hw) hS
        refine x_al rfl rfl ?_
        refine x_il rfl rfl ?_
        refine x_il rfl rfl ?_
        have ep : wS t en (PP t b en k) = p := by rw [← hw]; exact wS_n hB c0 c1
        refine x_call3 (c_addToken (k := k) hT (show TpR t (A1 2) en b by rw [eA]; exact hB) c0 hen hS.2.1.2.2.1 (by omega) hn) rfl (Nat.le_of_ble_eq_true rfl) (Or.inl (by first | exact hn | assumption)) (rcv_at (cw_fs (by with_reducible exact sp_1) hn) (by decide) (by decide)) (Nat.le_of_ble_eq_true rfl) (Nat.le_of_ble_eq_true rfl) (fun E w9 hq => hq.elim) ?_
        rintro v9 w9 ⟨rfl, rfl⟩
        exact l45 (k + 1) _ _ (by omega) (by
          show _ = wS t en (nxF t b en (wS t en (PP t b en k)))
          rw [ep]) (hS.add ep c0)
      have inner : ∀ q, q ≤ nxF t b en p → p < q → EX g mbOf (Ev g (d + 7)) (infoOf 97) k_X9_scan (fun v w' => v = none ∧ ∃ n F1 A1, w' = cW w F1 A1 L ∧ TkS F A F1 A1 t b en n ∧ wS t en (PP t b en n) = en) noX w.1 (cW w F1 A1 L) 0 0 19 [some (.ref 1), some (.int (nI p)), some (.int (nI q))] [] := by
        refine downN _ fun q hq ih2 => ?_
        intro hpq
        refine x_il rfl rfl ?_
        refine x_al rfl rfl ?_
        refine x_getC rfl hn (by with_reducible exact sp_1) (by exact rfl) ?_
        rw [e1]
        refine x_icgeN rfl (by omega) (fun c1 => ?_) (fun c1 => ?_)
        · skip
          rw [show q = nxF t b en p by omega]
          exact l35
        refine x_al rfl rfl ?_
        refine x_getC rfl hn (by with_reducible exact sp_1) (by exact rfl) ?_
        refine x_il rfl rfl ?_
        refine x_iaC rfl hn (by with_reducible exact sp_2) (by omega) ?_
        rw [show A1 2 p = nI (b p) by rw [eA]; exact b2]
        refine x_al rfl rfl ?_
        refine x_getC rfl hn (by with_reducible exact sp_1) (by exact rfl) ?_
        refine x_il rfl rfl ?_
        refine x_iaC rfl hn (by with_reducible exact sp_2) (by omega) ?_
        obtain ⟨r1, r2, r3⟩ := hB q c1
        rw [show A1 2 q = nI (b q) by rw [eA]; exact r2]
        refine x_call2 (c_goesOn b1 r1 hn) rfl (Nat.le_of_ble_eq_true rfl) (Or.inl (by first | exact hn | assumption)) trivial (Nat.le_of_ble_eq_true rfl) (Nat.le_of_ble_eq_true rfl) (fun E w9 hq => hq.elim) ?_
        rintro v9 w9 ⟨rfl, rfl⟩
        have hgo := nx_go hB c0 hpq hq c1
        refine x_ifeqB rfl (fun c2 => ?_) (fun c2 => ?_)
        · skip
          rw [show q = nxF t b en p from Nat.le_antisymm hq (Nat.le_of_not_lt (fun h => c2 (hgo.mpr h)))]
          exact l35
        refine x_inc1 (lo' := [_, _, _]) rfl rfl rfl ?_
        refine x_go rfl ?_
        exact ih2 (hgo.mp c2) (by omega)
      exact inner (p + 1) x1 (Nat.lt_succ_self _)
  refine ev_X9_scan ?_ (Nat.le_of_ble_eq_true rfl)
  refine x_lo (lo' := [some (.ref 1), none, none]) rfl ?_
  refine x_al rfl rfl ?_
  refine x_c rfl ?_
  refine x_putC rfl hn (by with_reducible exact sp_1) (by exact rfl) (by first | rfl | exact nr_z (by assumption)) (by first | rfl | exact fi_z _) ?_
  refine x_al rfl rfl ?_
  refine x_c rfl ?_
  refine x_putC rfl hn (by with_reducible exact sp_1) (by exact rfl) (by first | rfl | exact nr_z (by assumption)) (by first | rfl | exact fi_z _) ?_
  refine x_al rfl rfl ?_
  refine x_c rfl ?_
  refine x_putC rfl hn (by with_reducible exact sp_1) (by exact rfl) (by first | rfl | exact nr_z (by assumption)) (by first | rfl | exact fi_z _) ?_
  refine x_c rfl ?_
  refine x_is (lo' := [_, _, _]) rfl (Nat.le_of_ble_eq_true rfl) rfl ?_
  refine loop en 0 (by omega) (Nat.zero_le _) 0 _ _ _ (Nat.le_refl _) rfl ⟨fun q hq => ?_, ⟨?_, ?_, ?_, ?_⟩, fun _ _ _ _ => rfl, fun i h => absurd h (Nat.not_lt_zero _)⟩
  · rw [udA_ne hq, udA_ne hq, udA_ne hq]
  · simp only [udA_t]
    rw [upd_ne (by decide), upd_ne (by decide), upd_ne (by decide)]
    exact h1
  · simp only [udA_t]
    rw [upd_ne (by decide), upd_ne (by decide), upd_at]
  · simp only [udA_t]
    rw [upd_ne (by decide), upd_at]
    rfl
  · simp only [udA_t]
    rw [upd_at]
end CALLS
