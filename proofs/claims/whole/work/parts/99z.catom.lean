/-! the class reads an atom, and conditions; cw_ -/
section K
variable {t : Nat → Int32} {en p i : Nat}
theorem pWord_tag (hi : i < 19) (h : wdB t (wE t en p) (wS t en p) (WL.getD i 0) = true) (h1 : 10 ≤ i) (h2 : i < 14) : pWord t en p = (true, wE t en p, wS t en p, [(nI (i - 10), 0)]) := by
  unfold pWord
  rw [fiW_sub [9, 10, 11, 12] 10 ks_b (by decide) hi h, if_pos ⟨h1, h2⟩]
theorem pWord_fact (hi : i < 19) (h : wdB t (wE t en p) (wS t en p) (WL.getD i 0) = true) (h1 : 14 ≤ i) : pWord t en p = if sgB t en (wE t en p) 60 = true then pFact t en (wS t en (wE t en p) + 1) (i - 14) 100 else if sgB t en (wE t en p) 62 = true then pFact t en (wS t en (wE t en p) + 1) (i - 14) 200 else (false, 0, wS t en (wE t en p), []) := by
  unfold pWord
  rw [fiW_sub [9, 10, 11, 12] 10 ks_b (by decide) hi h, if_neg (fun h3 => by have : i < 14 := h3.2; omega), fiW_sub [13, 14, 15, 16, 17] 14 ks_c (by decide) hi h, if_pos ⟨h1, hi⟩]
theorem pWord_low (hi : i < 19) (h : wdB t (wE t en p) (wS t en p) (WL.getD i 0) = true) (h1 : i < 10) : pWord t en p = (false, 0, wS t en p, []) := by
  unfold pWord
  rw [fiW_sub [9, 10, 11, 12] 10 ks_b (by decide) hi h, if_neg (fun h3 => by omega), fiW_sub [13, 14, 15, 16, 17] 14 ks_c (by decide) hi h, if_neg (fun h3 => by omega)]
theorem pWord_no (h : ∀ i, i < 19 → ¬ wdB t (wE t en p) (wS t en p) (WL.getD i 0) = true) : pWord t en p = (false, 0, wS t en p, []) := by
  unfold pWord
  rw [fiW_sub0 [9, 10, 11, 12] 10 ks_b (by decide) h, fiW_sub0 [13, 14, 15, 16, 17] 14 ks_c (by decide) h]
end K
section READ
variable {g : aG} {e dp en n : Nat} {t : Nat → Int32} {b : Nat → Nat} {c : Nat → Int32}
theorem c_atomF {cond atom : Nat → PR} {dpst : Bool} (hB : TpR t c en b) (hen : en ≤ 400) (hn4 : n ≤ 400) (hdp : dpst = true ↔ dp = 6) (hd6 : dp ≤ 6) (hIc : IB en cond ∨ dpst = true) (hIa : IB en atom ∨ dpst = true) (hC : dpst = false → RdC g (e + 9) 46 t b en n (dp + 1) cond) (hAt : dpst = false → RdC g (e + 9) 48 t b en n (dp + 1) atom) : RdC g (e + 11) 48 t b en n dp (atomF cond atom dpst t en) := by
  intro w F A L p j u hn hT h7 hj hp hpe h2 hu
  have q1 : wE t en p ≤ en := wE_le hpe
  have q3 := wS_ge (t := t) (en := en) (p := p)
  have q4 := wE_ge (t := t) (en := en) (p := p)
  have hw : tokV t b en (wS t en p) = 9 ↔ wdB t (wE t en p) (wS t en p) 8 = true := tok_word (i := 9) hB hpe (by decide)
  have hg : tokV t b en (wS t en p) = 140 ↔ sgB t en p 40 = true := tok_sign (k := 40) hB hpe (by decide) (by decide) (by decide)
  have l9 : ∀ tok : Int32, (sgB t en p 40 = true ∨ wdB t (wE t en p) (wS t en p) 8 = true) → EX g mbOf (Ev g (e + 10)) (infoOf 48) k_X5_readAtom (CQ w F A L t b en n u (atomF cond atom dpst t en p)) noX w.1 (cW w F A L) 0 0 9 [some (.ref 1414), some (.ref 1), some (.int (nI dp)), some (.int tok), none, none] [] := by
    intro tok hs
    refine x_il rfl rfl ?_
    refine x_c rfl ?_
    refine x_icgeN (y := 6) rfl (by omega) (fun c0 => ?_) (fun c0 => ?_)
    · refine x_al rfl rfl ?_
      have hd : dpst = true := hdp.mpr (by omega)
      subst hd
      refine x_call1 (c_fail hT h7 hj hp hn4 hn) rfl (Nat.le_of_ble_eq_true rfl) (Or.inl (by first | exact hn | assumption)) (rcv_at (cw_fs (by with_reducible exact sp_1) hn) (by decide) (by decide)) (Nat.le_of_ble_eq_true rfl) (Nat.le_of_ble_eq_true rfl) (fun E w9 hq => hq.elim) ?_
      rintro v9 w9 ⟨rfl, rfl⟩
      refine x_retz rfl (Nat.le_of_ble_eq_true rfl) (Nat.le_of_ble_eq_true rfl) rfl (by first | rfl | assumption | exact bI_01 _) ?_
      exact CQ_f (atomF_last hs) (FrP.f1 (by omega)) (by rw [udA_t, upd_at])
    refine x_al rfl rfl ?_
    refine x_al rfl rfl ?_
    refine x_il rfl rfl ?_
    refine x_c rfl ?_
    refine x_addN (y := 1) rfl ?_
    have hd : dpst = false := by
      cases dpst with
      | false => rfl
      | true => exact absurd (hdp.mp rfl) (by omega)
    subst hd
    refine x_call3 (c_deep hB hen hn4 (hIc.resolve_right (by decide)) (hIa.resolve_right (by decide)) (hC rfl) (hAt rfl) w F A L p j u hn hT h7 hj hp hpe h2 hu hs) rfl (Nat.le_of_ble_eq_true rfl) (Or.inl (by first | exact hn | assumption)) (rcv_at (cw_fs (by with_reducible exact te_0 (by first | assumption | exact teA (by omega) | exact teN | exact teD | exact te_b (by assumption) | exact teB (by assumption) (by omega))) hn) (by decide) (by decide)) (Nat.le_of_ble_eq_true rfl) (Nat.le_of_ble_eq_true rfl) (fun E w9 hq => hq.elim) ?_
    rintro v9 w9 ⟨rfl, F3, A3, rfl, a1, a2, a3⟩
    refine x_go rfl ?_
    refine x_retz rfl (Nat.le_of_ble_eq_true rfl) (Nat.le_of_ble_eq_true rfl) rfl (by first | rfl | assumption | exact bI_01 _) ?_
    rw [atomF_deep hs]
    exact ⟨rfl, F3, A3, rfl, a1, a2, a3⟩
  have l32 : ∀ tok : Int32, atomF cond atom dpst t en p = (false, 0, wS t en p, []) → EX g mbOf (Ev g (e + 10)) (infoOf 48) k_X5_readAtom (CQ w F A L t b en n u (atomF cond atom dpst t en p)) noX w.1 (cW w F A L) 0 0 32 [some (.ref 1414), some (.ref 1), some (.int (nI dp)), some (.int tok), none, none] [] := by
    intro tok hP
    refine x_al rfl rfl ?_
    refine x_call1 (c_fail hT h7 hj hp hn4 hn) rfl (Nat.le_of_ble_eq_true rfl) (Or.inl (by first | exact hn | assumption)) (rcv_at (cw_fs (by with_reducible exact sp_1) hn) (by decide) (by decide)) (Nat.le_of_ble_eq_true rfl) (Nat.le_of_ble_eq_true rfl) (fun E w9 hq => hq.elim) ?_
    rintro v9 w9 ⟨rfl, rfl⟩
    refine x_retz rfl (Nat.le_of_ble_eq_true rfl) (Nat.le_of_ble_eq_true rfl) rfl (by first | rfl | assumption | exact bI_01 _) ?_
    exact CQ_f hP (FrP.f1 (by omega)) (by rw [udA_t, upd_at])
  have l59 : ∀ (i : Nat) (z : Int32) (opn : Nat) (F2 : Nat → Nat → Int32) (j2 p2 : Nat), 14 ≤ i → i < 19 → (z = 1 ∧ opn = 100 ∨ z = 0 ∧ opn = 200) → atomF cond atom dpst t en p = pFact t en p2 (i - 14) opn → FrP F A F2 A → F2 1 2 = F 1 2 → F2 1414 2 = nI u → F2 1 7 = nI j2 → j2 ≤ n → wS t en (PP t b en j2) = wS t en p2 → p2 ≤ en → u < 400 → EX g mbOf (Ev g (e + 10)) (infoOf 48) k_X5_readAtom (CQ w F A L t b en n u (atomF cond atom dpst t en p)) noX w.1 (cW w F2 A L) 0 0 59 [some (.ref 1414), some (.ref 1), some (.int (nI dp)), some (.int (nI i)), some (.int z), none] [] := by
    intro i z opn F2 j2 p2 h14 h19 hz hP hFr hf2 hu2 g7 gj gp gpe hu4
    refine x_al rfl rfl ?_
    refine x_c rfl ?_
    refine x_c rfl ?_
    refine x_call3 (c_takeNumber hB (hFr.tk hT) g7 gj gp gpe hn4 (by decide) hn) rfl (Nat.le_of_ble_eq_true rfl) (Or.inl (by first | exact hn | assumption)) (rcv_at (cw_fs (by with_reducible exact sp_1) hn) (by decide) (by decide)) (Nat.le_of_ble_eq_true rfl) (Nat.le_of_ble_eq_true rfl) (fun E w9 hq => hq.elim) ?_
    rintro v9 w9 hh
    unfold pFact at hP
    rcases hh with ⟨k1, rfl, rfl⟩ | ⟨k1, rfl, ⟨k2, k3⟩, rfl⟩
    · rw [if_pos k1] at hP
      refine x_is (lo' := [_, _, _, _, _, _]) rfl (Nat.le_of_ble_eq_true rfl) rfl ?_
      refine x_il rfl rfl ?_
      refine x_c rfl ?_
      refine x_iceq rfl (fun e9 => ?_) (fun e9 => absurd rfl e9)
      refine x_c rfl ?_
      refine x_retz rfl (Nat.le_of_ble_eq_true rfl) (Nat.le_of_ble_eq_true rfl) rfl (by first | rfl | assumption | exact bI_01 _) ?_
      exact CQ_f hP (hFr.trans (FrP.f1 (by omega))) (by rw [udA_t, upd_at])
    rw [if_neg k1] at hP
    refine x_is (lo' := [_, _, _, _, _, _]) rfl (Nat.le_of_ble_eq_true rfl) rfl ?_
    refine x_il rfl rfl ?_
    refine x_c rfl ?_
    have hN := numR_ok k1
    obtain ⟨v, hv, ev⟩ := nI_of2 (M := 9999) (n := 9999) rfl k1 hN.2
    rw [ev] at hP
    rw [ev]
    refine x_iceq rfl (fun e9 => absurd e9 (nI_m1 (by omega))) (fun e9 => ?_)
    refine x_al rfl rfl ?_
    refine x_il rfl rfl ?_
    rcases hz with ⟨rfl, rfl⟩ | ⟨rfl, rfl⟩
    · refine x_ifeq rfl (fun e9 => absurd e9 (show ¬ (1 : Int32) = 0 by decide)) (fun e9 => ?_)
      refine x_c rfl ?_
      refine x_go rfl ?_
      refine x_il rfl rfl ?_
      refine x_c rfl ?_
      first | refine x_subN (y := 14) rfl (by omega) ?_ | refine x_sub rfl ?_
      refine x_il rfl rfl ?_
      refine x_call4 (c_emit (u := u) (by rw [udA_ne (by decide)]; exact hu2) hu4 hn) rfl (Nat.le_of_ble_eq_true rfl) (Or.inl (by first | exact hn | assumption)) (rcv_at (cw_fs (by with_reducible exact te_0 (by first | assumption | exact teA (by omega) | exact teN | exact teD | exact te_b (by assumption) | exact teB (by assumption) (by omega))) hn) (by decide) (by decide)) (Nat.le_of_ble_eq_true rfl) (Nat.le_of_ble_eq_true rfl) (fun E w9 hq => hq.elim) ?_
      rintro v9 w9 ⟨rfl, rfl⟩
      refine x_ifeq rfl (fun e9 => absurd e9 (show ¬ (1 : Int32) = 0 by decide)) (fun e9 => ?_)
      refine x_c rfl ?_
      refine x_go rfl ?_
      refine x_retz rfl (Nat.le_of_ble_eq_true rfl) (Nat.le_of_ble_eq_true rfl) rfl (by first | rfl | assumption | exact bI_01 _) ?_
      rw [hP]
      refine ⟨rfl, _, _, rfl, (hFr.trans (FrP.f1 (k := 7) (by omega))).trans FrP.em, fun h => absurd h (by show ¬ true = false; decide), fun _ => ⟨?_, ⟨j2 + 1, ?_, k2, ?_⟩, ?_, fun i hi => ?_, ?_⟩⟩
      · rw [udA_ne (by decide), udA_t, upd_ne (by decide)]; exact hf2
      · rw [udA_ne (by decide), udA_t, upd_at]
      · exact k3
      · rw [udA_t, upd_at]
        rfl
      · rw [udA_t, upd_ne (by omega)]
      · rw [udA_t]
        refine CoR.one ?_
        rw [upd_at]
        exact enc_f (by omega) hv (Or.inl ⟨rfl, rfl⟩)
    · refine x_ifeq rfl (fun e9 => ?_) (fun e9 => absurd rfl e9)
      refine x_c rfl ?_
      refine x_il rfl rfl ?_
      refine x_c rfl ?_
      first | refine x_subN (y := 14) rfl (by omega) ?_ | refine x_sub rfl ?_
      refine x_il rfl rfl ?_
      refine x_call4 (c_emit (u := u) (by rw [udA_ne (by decide)]; exact hu2) hu4 hn) rfl (Nat.le_of_ble_eq_true rfl) (Or.inl (by first | exact hn | assumption)) (rcv_at (cw_fs (by with_reducible exact te_0 (by first | assumption | exact teA (by omega) | exact teN | exact teD | exact te_b (by assumption) | exact teB (by assumption) (by omega))) hn) (by decide) (by decide)) (Nat.le_of_ble_eq_true rfl) (Nat.le_of_ble_eq_true rfl) (fun E w9 hq => hq.elim) ?_
      rintro v9 w9 ⟨rfl, rfl⟩
      refine x_ifeq rfl (fun e9 => absurd e9 (show ¬ (1 : Int32) = 0 by decide)) (fun e9 => ?_)
      refine x_c rfl ?_
      refine x_go rfl ?_
      refine x_retz rfl (Nat.le_of_ble_eq_true rfl) (Nat.le_of_ble_eq_true rfl) rfl (by first | rfl | assumption | exact bI_01 _) ?_
      rw [hP]
      refine ⟨rfl, _, _, rfl, (hFr.trans (FrP.f1 (k := 7) (by omega))).trans FrP.em, fun h => absurd h (by show ¬ true = false; decide), fun _ => ⟨?_, ⟨j2 + 1, ?_, k2, ?_⟩, ?_, fun i hi => ?_, ?_⟩⟩
      · rw [udA_ne (by decide), udA_t, upd_ne (by decide)]; exact hf2
      · rw [udA_ne (by decide), udA_t, upd_at]
      · exact k3
      · rw [udA_t, upd_at]
        rfl
      · rw [udA_t, upd_ne (by omega)]
      · rw [udA_t]
        refine CoR.one ?_
        rw [upd_at]
        exact enc_f (by omega) hv (Or.inr ⟨rfl, rfl⟩)
  refine ev_X5_readAtom ?_ (Nat.le_of_ble_eq_true rfl)
  refine x_lo (lo' := [some (.ref 1414), some (.ref 1), some (.int (nI dp)), none, none, none]) rfl ?_
  refine x_al rfl rfl ?_
  refine x_call1 (c_token hT h7 hj hp hn4 hn) rfl (Nat.le_of_ble_eq_true rfl) (Or.inl (by first | exact hn | assumption)) (rcv_at (cw_fs (by with_reducible exact sp_1) hn) (by decide) (by decide)) (Nat.le_of_ble_eq_true rfl) (Nat.le_of_ble_eq_true rfl) (fun E w9 hq => hq.elim) ?_
  rintro v9 w9 ⟨rfl, rfl⟩
  refine x_is (lo' := [_, _, _, _, _, _]) rfl (Nat.le_of_ble_eq_true rfl) rfl ?_
  refine x_il rfl rfl ?_
  refine x_c rfl ?_
  by_cases hs9 : wdB t (wE t en p) (wS t en p) 8 = true
  · refine x_iceq rfl (fun e9 => ?_) (fun e9 => absurd (hw.mpr hs9) e9)
    exact l9 _ (Or.inr hs9)
  refine x_iceq rfl (fun e9 => absurd (hw.mp e9) hs9) (fun e9 => ?_)
  refine x_il rfl rfl ?_
  refine x_c rfl ?_
  by_cases hs40 : sgB t en p 40 = true
  · refine x_icne rfl (fun e9 => absurd (hg.mpr hs40) e9) (fun e9 => ?_)
    exact l9 _ (Or.inl hs40)
  refine x_icne rfl (fun e9 => ?_) (fun e9 => absurd (hg.mp e9) hs40)
  have hW : atomF cond atom dpst t en p = pWord t en p := atomF_word hs40 hs9
  refine x_il rfl rfl ?_
  refine x_c rfl ?_
  rcases tok_cases hB hpe with ⟨i, hi, e1, hwi, hl, hnx⟩ | ⟨k, k1, k2, e1, hno⟩
  rotate_left
  · rw [e1]
    refine x_icltN (y := 10) rfl (by omega) (fun c => by omega) (fun c => ?_)
    refine x_il rfl rfl ?_
    refine x_c rfl ?_
    refine x_icgtN (y := 18) rfl (by omega) (fun e9 => ?_) (fun e9 => absurd e9 (by omega))
    exact l32 _ (hW.trans (pWord_no hno))
  rw [e1]
  by_cases h10 : i < 10
  · refine x_icltN (y := 10) rfl (by omega) (fun e9 => ?_) (fun e9 => absurd e9 (by omega))
    exact l32 _ (hW.trans (pWord_low hi hwi h10))
  refine x_icltN (y := 10) rfl (by omega) (fun c => by omega) (fun c => ?_)
  refine x_il rfl rfl ?_
  refine x_c rfl ?_
  refine x_icgtN (y := 18) rfl (by omega) (fun c => by omega) (fun c => ?_)
  refine x_al rfl rfl ?_
  refine x_il rfl rfl ?_
  refine x_call2 (c_takeT hT h7 hj hp hn4 hn) rfl (Nat.le_of_ble_eq_true rfl) (Or.inl (by first | exact hn | assumption)) (rcv_at (cw_fs (by with_reducible exact sp_1) hn) (by decide) (by decide)) (Nat.le_of_ble_eq_true rfl) (Nat.le_of_ble_eq_true rfl) (fun E w9 hq => hq.elim) ?_
  rintro v9 w9 hh
  rcases hh with ⟨k1, rfl, rfl⟩ | ⟨k1, rfl, rfl⟩
  rotate_left
  · exact absurd e1 k1
  obtain ⟨d1, d2⟩ := pos_word hB hT hj hp hpe hi hwi
  have hFr2 : FrP F A (udA F 1 (upd (F 1) 7 (nI (j + 1)))) A := FrP.f1 (by omega)
  refine x_ifne rfl (fun e9 => ?_) (fun e9 => absurd e9 (show ¬ (1 : Int32) = 0 by decide))
  refine x_il rfl rfl ?_
  refine x_c rfl ?_
  by_cases h14 : i < 14
  · have hP := hW.trans (pWord_tag hi hwi (by omega) h14)
    refine x_icgeN (y := 14) rfl (by omega) (fun c => by omega) (fun c => ?_)
    refine x_al rfl rfl ?_
    refine x_c rfl ?_
    refine x_il rfl rfl ?_
    refine x_c rfl ?_
    first | refine x_subN (y := 10) rfl (by omega) ?_ | refine x_sub rfl ?_
    refine x_c rfl ?_
    refine x_call4 (c_emit (u := u) (by rw [udA_ne (by decide)]; exact h2) (by omega) hn) rfl (Nat.le_of_ble_eq_true rfl) (Or.inl (by first | exact hn | assumption)) (rcv_at (cw_fs (by with_reducible exact te_0 (by first | assumption | exact teA (by omega) | exact teN | exact teD | exact te_b (by assumption) | exact teB (by assumption) (by omega))) hn) (by decide) (by decide)) (Nat.le_of_ble_eq_true rfl) (Nat.le_of_ble_eq_true rfl) (fun E w9 hq => hq.elim) ?_
    rintro v9 w9 ⟨rfl, rfl⟩
    refine x_retz rfl (Nat.le_of_ble_eq_true rfl) (Nat.le_of_ble_eq_true rfl) rfl (by first | rfl | assumption | exact bI_01 _) ?_
    rw [hP]
    refine ⟨rfl, _, _, rfl, hFr2.trans FrP.em, fun h => absurd h (by show ¬ true = false; decide), fun _ => ⟨?_, ⟨j + 1, ?_, d1, d2⟩, ?_, fun i hi => ?_, ?_⟩⟩
    · rw [udA_ne (by decide), udA_t, upd_ne (by decide)]
    · rw [udA_ne (by decide), udA_t, upd_at]
    · rw [udA_t, upd_at]
      rfl
    · rw [udA_t, upd_ne (by omega)]
    · rw [udA_t]
      refine CoR.one ?_
      rw [upd_at]
      have et : ∀ x : Fin 4, (0 : Int32) ||| nI x.1 <<< ((3 : Int32) &&& 31) ||| (0 : Int32) <<< ((6 : Int32) &&& 31) = nI (8 * x.1) := by decide
      exact Or.inr (Or.inr (Or.inr (Or.inl ⟨i - 10, by omega, rfl, et ⟨i - 10, by omega⟩⟩)))
  have hP := hW.trans (pWord_fact hi hwi (by omega))
  refine x_icgeN (y := 14) rfl (by omega) (fun e9 => ?_) (fun e9 => absurd e9 (by omega))
  refine x_al rfl rfl ?_
  refine x_c rfl ?_
  have hT2 := hFr2.tk hT
  have g6 : tokV t b en (wS t en (wE t en p)) = 160 ↔ sgB t en (wE t en p) 60 = true := tok_sign (k := 60) hB q1 (by decide) (by decide) (by decide)
  have g7 : tokV t b en (wS t en (wE t en p)) = 162 ↔ sgB t en (wE t en p) 62 = true := tok_sign (k := 62) hB q1 (by decide) (by decide) (by decide)
  have e7 : udA F 1 (upd (F 1) 7 (nI (j + 1))) 1 7 = nI (j + 1) := by rw [udA_t, upd_at]
  have f2 : udA F 1 (upd (F 1) 7 (nI (j + 1))) 1 2 = F 1 2 := by rw [udA_t, upd_ne (by decide)]
  have fu : udA F 1 (upd (F 1) 7 (nI (j + 1))) 1414 2 = nI u := by rw [udA_ne (by decide)]; exact h2
  refine x_call2 (c_takeT (p := wE t en p) hT2 e7 d1 d2 hn4 hn) rfl (Nat.le_of_ble_eq_true rfl) (Or.inl (by first | exact hn | assumption)) (rcv_at (cw_fs (by with_reducible exact sp_1) hn) (by decide) (by decide)) (Nat.le_of_ble_eq_true rfl) (Nat.le_of_ble_eq_true rfl) (fun E w9 hq => hq.elim) ?_
  rintro v9 w9 hh
  rcases hh with ⟨k2, rfl, rfl⟩ | ⟨k2, rfl, rfl⟩
  · refine x_is (lo' := [_, _, _, _, _, _]) rfl (Nat.le_of_ble_eq_true rfl) rfl ?_
    refine x_il rfl rfl ?_
    have s1 := g6.mp k2
    have s2 := sgB_lt s1
    obtain ⟨x1, x2⟩ := pos_sign (k := 60) hB hT2 d1 d2 (by decide) (by decide) (by decide) s1
    rw [if_pos s1] at hP
    refine x_ifne rfl (fun e9 => ?_) (fun e9 => absurd e9 (show ¬ (1 : Int32) = 0 by decide))
    exact l59 i 1 100 _ _ _ (by omega) hi (Or.inl ⟨rfl, rfl⟩) hP (hFr2.trans (FrP.f1 (k := 7) (by omega))) (by rw [udA_t, upd_ne (by decide)]; exact f2) (by rw [udA_ne (by decide)]; exact fu) (by rw [udA_t, upd_at]) x1 x2 (by omega) (by omega)
  rw [if_neg (fun h => k2 (g6.mpr h))] at hP
  refine x_is (lo' := [_, _, _, _, _, _]) rfl (Nat.le_of_ble_eq_true rfl) rfl ?_
  refine x_il rfl rfl ?_
  refine x_ifne rfl (fun e9 => absurd rfl e9) (fun e9 => ?_)
  refine x_al rfl rfl ?_
  refine x_c rfl ?_
  refine x_call2 (c_takeT (p := wE t en p) hT2 e7 d1 d2 hn4 hn) rfl (Nat.le_of_ble_eq_true rfl) (Or.inl (by first | exact hn | assumption)) (rcv_at (cw_fs (by with_reducible exact sp_1) hn) (by decide) (by decide)) (Nat.le_of_ble_eq_true rfl) (Nat.le_of_ble_eq_true rfl) (fun E w9 hq => hq.elim) ?_
  rintro v9 w9 hh
  rcases hh with ⟨k3, rfl, rfl⟩ | ⟨k3, rfl, rfl⟩
  · have s1 := g7.mp k3
    have s2 := sgB_lt s1
    obtain ⟨x1, x2⟩ := pos_sign (k := 62) hB hT2 d1 d2 (by decide) (by decide) (by decide) s1
    rw [if_pos s1] at hP
    refine x_ifne rfl (fun e9 => ?_) (fun e9 => absurd e9 (show ¬ (1 : Int32) = 0 by decide))
    exact l59 i 0 200 _ _ _ (by omega) hi (Or.inr ⟨rfl, rfl⟩) hP (hFr2.trans (FrP.f1 (k := 7) (by omega))) (by rw [udA_t, upd_ne (by decide)]; exact f2) (by rw [udA_ne (by decide)]; exact fu) (by rw [udA_t, upd_at]) x1 x2 (by omega) (by omega)
  rw [if_neg (fun h => k3 (g7.mpr h))] at hP
  refine x_ifne rfl (fun e9 => absurd rfl e9) (fun e9 => ?_)
  refine x_al rfl rfl ?_
  refine x_call1 (c_fail (p := wE t en p) hT2 e7 d1 d2 hn4 hn) rfl (Nat.le_of_ble_eq_true rfl) (Or.inl (by first | exact hn | assumption)) (rcv_at (cw_fs (by with_reducible exact sp_1) hn) (by decide) (by decide)) (Nat.le_of_ble_eq_true rfl) (Nat.le_of_ble_eq_true rfl) (fun E w9 hq => hq.elim) ?_
  rintro v9 w9 ⟨rfl, rfl⟩
  refine x_retz rfl (Nat.le_of_ble_eq_true rfl) (Nat.le_of_ble_eq_true rfl) rfl (by first | rfl | assumption | exact bI_01 _) ?_
  exact CQ_f hP (hFr2.trans (FrP.f1 (by omega))) (by rw [udA_t, upd_at])
def eE (d : Nat) : Nat → Nat
  | 0 => d
  | r + 1 => eE d r + 4
theorem c_atom {d : Nat} (hB : TpR t c en b) (hen : en ≤ 400) (hn4 : n ≤ 400) : ∀ r, r ≤ 6 → RdC g (eE d r + 11) 48 t b en n (6 - r) (pAtom t en r) := by
  intro r
  induction r with
  | zero =>
    intro _
    exact c_atomF (dpst := true) hB hen hn4 ⟨fun _ => rfl, fun _ => rfl⟩ (by omega) (Or.inr rfl) (Or.inr rfl) (fun h => by cases h) (fun h => by cases h)
  | succ r ih =>
    intro hr
    have h0 := ih (by omega)
    rw [show 6 - r = 6 - (r + 1) + 1 by omega] at h0
    have hb := pAtom_b t en r
    have h1 := c_readAll (e := eE d r + 4) hB hen hn4 hb h0
    have h2 := c_readAny (e := eE d r + 5) hB hen hn4 (pSeq_b hb (by decide)) h1
    exact c_atomF (e := eE d r + 4) (dpst := false) hB hen hn4 ⟨fun h => (by cases h), fun h => (by omega)⟩ (by omega) (Or.inl (pSeq_b (pSeq_b hb (by decide)) (by decide))) (Or.inl hb) (fun _ => h2) (fun _ => RdC_up (m := 2) h0)
/-- a whole condition -/
theorem c_cond {d : Nat} (hB : TpR t c en b) (hen : en ≤ 400) (hn4 : n ≤ 400) : RdC g (d + 37) 46 t b en n 0 (pCond t en 6) := by
  have h0 := c_atom (g := g) (d := d) (n := n) hB hen hn4 6 (Nat.le_refl _)
  have hb := pAtom_b t en 6
  exact c_readAny (e := d + 29) hB hen hn4 (pSeq_b hb (by decide)) (c_readAll (e := d + 28) hB hen hn4 hb h0)
end READ
