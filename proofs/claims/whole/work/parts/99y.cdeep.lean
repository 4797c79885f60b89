/-! the class reads atoms; cw_ -/
theorem RdC_up {g : aG} {D m mid dp en n : Nat} {t : Nat → Int32} {b : Nat → Nat} {item : Nat → PR} (h : RdC g D mid t b en n dp item) : RdC g (D + m) mid t b en n dp item := fun w F A L p j u h1 h2 h3 h4 h5 h6 h7 h8 => Ev_up g D m _ _ _ _ _ _ _ (fun _ _ q => q) (fun _ _ q => q) (h w F A L p j u h1 h2 h3 h4 h5 h6 h7 h8)
/-- one level deeper: behind ( or not -/
def deepF (cond atom : Nat → PR) (t : Nat → Int32) (en p : Nat) : PR := if sgB t en p 40 = true then (if (cond (wS t en p + 1)).1 = true then (if sgB t en (cond (wS t en p + 1)).2.1 41 = true then (true, wS t en (cond (wS t en p + 1)).2.1 + 1, wS t en (cond (wS t en p + 1)).2.1, (cond (wS t en p + 1)).2.2.2) else (false, 0, wS t en (cond (wS t en p + 1)).2.1, [])) else (false, 0, (cond (wS t en p + 1)).2.2.1, [])) else (if (atom (wE t en p)).1 = true then (true, (atom (wE t en p)).2.1, (atom (wE t en p)).2.2.1, (atom (wE t en p)).2.2.2 ++ [(300, 0)]) else (false, 0, (atom (wE t en p)).2.2.1, []))
theorem atomF_deep {cond atom : Nat → PR} {t : Nat → Int32} {en p : Nat} (h : sgB t en p 40 = true ∨ wdB t (wE t en p) (wS t en p) 8 = true) : atomF cond atom false t en p = deepF cond atom t en p := by
  unfold atomF deepF
  by_cases c1 : sgB t en p 40 = true
  · rw [if_pos c1, if_pos c1, if_neg (by decide)]
  · rw [if_neg c1, if_neg c1, if_pos (h.resolve_left c1), if_neg (by decide)]
theorem atomF_word {cond atom : Nat → PR} {dp : Bool} {t : Nat → Int32} {en p : Nat} (h1 : ¬ sgB t en p 40 = true) (h2 : ¬ wdB t (wE t en p) (wS t en p) 8 = true) : atomF cond atom dp t en p = pWord t en p := by
  unfold atomF
  rw [if_neg h1, if_neg h2]
theorem atomF_last {cond atom : Nat → PR} {t : Nat → Int32} {en p : Nat} (h : sgB t en p 40 = true ∨ wdB t (wE t en p) (wS t en p) 8 = true) : atomF cond atom true t en p = (false, 0, wS t en p, []) := by
  unfold atomF
  by_cases c1 : sgB t en p 40 = true
  · rw [if_pos c1, if_pos rfl]
  · rw [if_neg c1, if_pos (h.resolve_left c1), if_pos rfl]
theorem CQ_f {w : aW} {F A F' A' : Nat → Nat → Int32} {L : Nat → Int64} {t : Nat → Int32} {b : Nat → Nat} {en n u s : Nat} {P : PR} (hP : P = (false, 0, s, [])) (h1 : FrP F A F' A') (h2 : F' 1 2 = nI s) : CQ w F A L t b en n u P (some (.int 0)) (cW w F' A' L) := by
  subst hP
  exact ⟨rfl, F', A', rfl, h1, fun _ => h2, fun h => absurd h (by show ¬ false = true; decide)⟩
theorem enc_f {x v : Nat} {o k : Int32} (hx : x < 5) (hv : v ≤ 9999) (h : (o = 1 ∧ k = nI (100 + x)) ∨ (o = 2 ∧ k = nI (200 + x))) : EncR k (nI v) (o ||| nI x <<< ((3 : Int32) &&& 31) ||| nI v <<< ((6 : Int32) &&& 31)) := by
  have e1 : ∀ x : Fin 5, (1 : Int32) ||| nI x.1 <<< ((3 : Int32) &&& 31) = nI (1 + 8 * x.1) ∧ (2 : Int32) ||| nI x.1 <<< ((3 : Int32) &&& 31) = nI (2 + 8 * x.1) := by decide
  have e2 : nI v <<< ((6 : Int32) &&& 31) = nI (v * 64) := pk_shlN _ 6 rfl (by omega)
  have e3 : ∀ y, y < 64 → nI y ||| nI (v * 64) = nI (y + 64 * v) := fun y hy => by
    rw [nI_or, Nat.or_comm, show v * 64 = 2 ^ 6 * v by omega, ← Nat.two_pow_add_eq_or_of_lt (show y < 2 ^ 6 from hy), Nat.add_comm]
  rcases h with ⟨rfl, rfl⟩ | ⟨rfl, rfl⟩
  · rw [(e1 ⟨x, hx⟩).1, e2, e3 _ (show 1 + 8 * x < 64 by omega)]
    exact Or.inr (Or.inr (Or.inr (Or.inr (Or.inl ⟨x, v, hx, hv, rfl, rfl, rfl⟩))))
  · rw [(e1 ⟨x, hx⟩).2, e2, e3 _ (show 2 + 8 * x < 64 by omega)]
    exact Or.inr (Or.inr (Or.inr (Or.inr (Or.inr ⟨x, v, hx, hv, rfl, rfl, rfl⟩))))
section READ
variable {g : aG} {e dp en n : Nat} {t : Nat → Int32} {b : Nat → Nat} {c : Nat → Int32}
theorem c_deep {cond atom : Nat → PR} (hB : TpR t c en b) (hen : en ≤ 400) (hn4 : n ≤ 400) (hIc : IB en cond) (hIa : IB en atom) (hC : RdC g (e + 9) 46 t b en n dp cond) (hAt : RdC g (e + 9) 48 t b en n dp atom) (w : aW) (F A : Nat → Nat → Int32) (L : Nat → Int64) (p j u : Nat) (hn : w.1 = N0) (hT : TkA F A t b en n) (h7 : F 1 7 = nI j) (hj : j ≤ n) (hp : wS t en (PP t b en j) = wS t en p) (hpe : p ≤ en) (h2 : F 1414 2 = nI u) (hu : u ≤ p) (hs : sgB t en p 40 = true ∨ wdB t (wE t en p) (wS t en p) 8 = true) : Ev g (e + 10) 49 [.ref 1414, .ref 1, .int (nI dp)] (cW w F A L) (CQ w F A L t b en n u (deepF cond atom t en p)) noX := by
  have e1 : wE t en p ≤ en := wE_le hpe
  have e3 := wS_ge (t := t) (en := en) (p := p)
  have e4 := wE_ge (t := t) (en := en) (p := p)
  have hw : tokV t b en (wS t en p) = 9 ↔ wdB t (wE t en p) (wS t en p) 8 = true := tok_word (i := 9) hB hpe (by decide)
  have hg : tokV t b en (wS t en p) = 140 ↔ sgB t en p 40 = true := tok_sign (k := 40) hB hpe (by decide) (by decide) (by decide)
  generalize hP : deepF cond atom t en p = P
  unfold deepF at hP
  have l17 : ∀ F' A', (∃ s, P = (false, 0, s, []) ∧ F' 1 2 = nI s) → FrP F A F' A' → EX g mbOf (Ev g (e + 9)) (infoOf 49) k_X5_readDeeper (CQ w F A L t b en n u P) noX w.1 (cW w F' A' L) 0 0 17 [some (.ref 1414), some (.ref 1), some (.int (nI dp))] [] := by
    rintro F' A' ⟨s, h1, h3⟩ h4
    refine x_c rfl ?_
    refine x_retz rfl (Nat.le_of_ble_eq_true rfl) (Nat.le_of_ble_eq_true rfl) rfl (by first | rfl | assumption | exact bI_01 _) ?_
    exact CQ_f h1 h4 h3
  have l37 : ∀ F' A', (∃ s, P = (false, 0, s, []) ∧ F' 1 2 = nI s) → FrP F A F' A' → EX g mbOf (Ev g (e + 9)) (infoOf 49) k_X5_readDeeper (CQ w F A L t b en n u P) noX w.1 (cW w F' A' L) 0 0 37 [some (.ref 1414), some (.ref 1), some (.int (nI dp))] [] := by
    rintro F' A' ⟨s, h1, h3⟩ h4
    refine x_c rfl ?_
    refine x_retz rfl (Nat.le_of_ble_eq_true rfl) (Nat.le_of_ble_eq_true rfl) rfl (by first | rfl | assumption | exact bI_01 _) ?_
    exact CQ_f h1 h4 h3
  refine ev_X5_readDeeper ?_ (Nat.le_of_ble_eq_true rfl)
  refine x_lo (lo' := [some (.ref 1414), some (.ref 1), some (.int (nI dp))]) rfl ?_
  refine x_al rfl rfl ?_
  refine x_c rfl ?_
  refine x_call2 (c_takeT hT h7 hj hp hn4 hn) rfl (Nat.le_of_ble_eq_true rfl) (Or.inl (by first | exact hn | assumption)) (rcv_at (cw_fs (by with_reducible exact sp_1) hn) (by decide) (by decide)) (Nat.le_of_ble_eq_true rfl) (Nat.le_of_ble_eq_true rfl) (fun E w9 hq => hq.elim) ?_
  rintro v9 w9 hh
  rcases hh with ⟨k1, rfl, rfl⟩ | ⟨k1, rfl, rfl⟩
  · have hw1 := hw.mp k1
    have hno : ¬ sgB t en p 40 = true := fun h => by
      rw [hg.mpr h] at k1
      exact absurd k1 (by decide)
    rw [if_neg hno] at hP
    have hlen := wd_len hw1
    have hlen2 : txN 8 = 3 := by decide
    obtain ⟨b1, b2⟩ := pos_word (i := 9) hB hT hj hp hpe (by decide) hw1
    have hFr2 : FrP F A (udA F 1 (upd (F 1) 7 (nI (j + 1)))) A := FrP.f1 (by omega)
    refine x_ifeq rfl (fun e9 => absurd e9 (show ¬ (1 : Int32) = 0 by decide)) (fun e9 => ?_)
    refine x_al rfl rfl ?_
    refine x_al rfl rfl ?_
    refine x_il rfl rfl ?_
    refine x_call3 (hAt w (udA F 1 (upd (F 1) 7 (nI (j + 1)))) A L (wE t en p) (j + 1) u hn (hFr2.tk hT) (by rw [udA_t, upd_at]) b1 b2 e1 (by rw [udA_ne (by decide)]; exact h2) (by omega)) rfl (Nat.le_of_ble_eq_true rfl) (Or.inl (by first | exact hn | assumption)) (rcv_at (cw_fs (by with_reducible exact te_0 (by first | assumption | exact teA (by omega) | exact teN | exact teD | exact te_b (by assumption) | exact teB (by assumption) (by omega))) hn) (by decide) (by decide)) (Nat.le_of_ble_eq_true rfl) (Nat.le_of_ble_eq_true rfl) (fun E w9 hq => hq.elim) ?_
    rintro v9 w9 ⟨rfl, F3, A3, rfl, q1, q2, q3⟩
    cases hok : (atom (wE t en p)).1 with
    | false =>
      rw [if_neg (by rw [hok]; decide)] at hP
      refine x_ifeq rfl (fun e9 => ?_) (fun e9 => absurd rfl e9)
      exact l17 F3 A3 ⟨_, hP.symm, q2 hok⟩ (hFr2.trans q1)
    | true =>
      rw [if_pos hok] at hP
      obtain ⟨f3, hj3, u3, old3, co3⟩ := q3 hok
      have hb2 := hIa _ e1 hok
      refine x_ifeq rfl (fun e9 => absurd e9 (show ¬ (1 : Int32) = 0 by decide)) (fun e9 => ?_)
      refine x_al rfl rfl ?_
      refine x_c rfl ?_
      refine x_c rfl ?_
      refine x_c rfl ?_
      refine x_call4 (c_emit u3 (by omega) hn) rfl (Nat.le_of_ble_eq_true rfl) (Or.inl (by first | exact hn | assumption)) (rcv_at (cw_fs (by with_reducible exact te_0 (by first | assumption | exact teA (by omega) | exact teN | exact teD | exact te_b (by assumption) | exact teB (by assumption) (by omega))) hn) (by decide) (by decide)) (Nat.le_of_ble_eq_true rfl) (Nat.le_of_ble_eq_true rfl) (fun E w9 hq => hq.elim) ?_
      rintro v9 w9 ⟨rfl, rfl⟩
      refine x_ifeq rfl (fun e9 => absurd e9 (show ¬ (1 : Int32) = 0 by decide)) (fun e9 => ?_)
      refine x_c rfl ?_
      refine x_go rfl ?_
      refine x_retz rfl (Nat.le_of_ble_eq_true rfl) (Nat.le_of_ble_eq_true rfl) rfl (by first | rfl | assumption | exact bI_01 _) ?_
      subst hP
      obtain ⟨j3, g7, gj, gp⟩ := hj3
      refine ⟨rfl, _, _, rfl, (hFr2.trans q1).trans FrP.em, fun h => absurd h (by show ¬ true = false; decide), fun _ => ⟨?_, ⟨j3, ?_, gj, gp⟩, ?_, fun i hi => ?_, ?_⟩⟩
      · rw [udA_ne (by decide), f3, udA_t, upd_ne (by decide)]
      · rw [udA_ne (by decide)]; exact g7
      · rw [udA_t, upd_at]
        refine congrArg nI ?_
        show _ = u + ((atom (wE t en p)).2.2.2 ++ [(300, 0)]).length
        rw [List.length_append]
        rfl
      · rw [udA_t, upd_ne (by omega)]
        exact old3 i hi
      · rw [udA_t]
        refine CoR.app (CoR.congr co3 (Nat.le_refl _) fun i hi => ?_) (CoR.one ?_)
        · rw [upd_ne (by omega)]
        · rw [upd_at]
          exact Or.inl ⟨rfl, by decide⟩
  · have hs1 : sgB t en p 40 = true := hs.resolve_right (fun h => k1 (hw.mpr h))
    rw [if_pos hs1] at hP
    have hsl := sgB_lt hs1
    obtain ⟨b1, b2⟩ := pos_sign (k := 40) hB hT hj hp (by decide) (by decide) (by decide) hs1
    refine x_ifeq rfl (fun e9 => ?_) (fun e9 => absurd rfl e9)
    refine x_al rfl rfl ?_
    refine x_c rfl ?_
    refine x_call2 (c_takeT hT h7 hj hp hn4 hn) rfl (Nat.le_of_ble_eq_true rfl) (Or.inl (by first | exact hn | assumption)) (rcv_at (cw_fs (by with_reducible exact sp_1) hn) (by decide) (by decide)) (Nat.le_of_ble_eq_true rfl) (Nat.le_of_ble_eq_true rfl) (fun E w9 hq => hq.elim) ?_
    rintro v9 w9 hh
    rcases hh with ⟨k2, rfl, rfl⟩ | ⟨k2, rfl, rfl⟩
    rotate_left
    · exact absurd (hg.mpr hs1) k2
    have hFr2 : FrP F A (udA F 1 (upd (F 1) 7 (nI (j + 1)))) A := FrP.f1 (by omega)
    refine x_ifeq rfl (fun e9 => absurd e9 (show ¬ (1 : Int32) = 0 by decide)) (fun e9 => ?_)
    refine x_al rfl rfl ?_
    refine x_al rfl rfl ?_
    refine x_il rfl rfl ?_
    refine x_call3 (hC w (udA F 1 (upd (F 1) 7 (nI (j + 1)))) A L (wS t en p + 1) (j + 1) u hn (hFr2.tk hT) (by rw [udA_t, upd_at]) b1 b2 (by omega) (by rw [udA_ne (by decide)]; exact h2) (by omega)) rfl (Nat.le_of_ble_eq_true rfl) (Or.inl (by first | exact hn | assumption)) (rcv_at (cw_fs (by with_reducible exact te_0 (by first | assumption | exact teA (by omega) | exact teN | exact teD | exact te_b (by assumption) | exact teB (by assumption) (by omega))) hn) (by decide) (by decide)) (Nat.le_of_ble_eq_true rfl) (Nat.le_of_ble_eq_true rfl) (fun E w9 hq => hq.elim) ?_
    rintro v9 w9 ⟨rfl, F3, A3, rfl, q1, q2, q3⟩
    cases hok : (cond (wS t en p + 1)).1 with
    | false =>
      rw [if_neg (by rw [hok]; decide)] at hP
      refine x_ifeq rfl (fun e9 => ?_) (fun e9 => absurd rfl e9)
      exact l37 F3 A3 ⟨_, hP.symm, q2 hok⟩ (hFr2.trans q1)
    | true =>
      rw [if_pos hok] at hP
      obtain ⟨f3, ⟨j3, g7, gj, gp⟩, u3, old3, co3⟩ := q3 hok
      have hb2 := hIc _ (show wS t en p + 1 ≤ en by omega) hok
      generalize (cond (wS t en p + 1)).2.1 = p2 at *
      have hT3 := (hFr2.trans q1).tk hT
      have hg2 : tokV t b en (wS t en p2) = 141 ↔ sgB t en p2 41 = true := tok_sign (k := 41) hB hb2.2.2 (by decide) (by decide) (by decide)
      refine x_ifeq rfl (fun e9 => absurd e9 (show ¬ (1 : Int32) = 0 by decide)) (fun e9 => ?_)
      refine x_al rfl rfl ?_
      refine x_c rfl ?_
      refine x_call2 (c_takeT hT3 g7 gj gp hn4 hn) rfl (Nat.le_of_ble_eq_true rfl) (Or.inl (by first | exact hn | assumption)) (rcv_at (cw_fs (by with_reducible exact sp_1) hn) (by decide) (by decide)) (Nat.le_of_ble_eq_true rfl) (Nat.le_of_ble_eq_true rfl) (fun E w9 hq => hq.elim) ?_
      rintro v9 w9 hh
      rcases hh with ⟨k3, rfl, rfl⟩ | ⟨k3, rfl, rfl⟩
      · have hs2 := hg2.mp k3
        rw [if_pos hs2] at hP
        obtain ⟨d1, d2⟩ := pos_sign (k := 41) hB hT3 gj gp (by decide) (by decide) (by decide) hs2
        refine x_ifne rfl (fun e9 => ?_) (fun e9 => absurd e9 (show ¬ (1 : Int32) = 0 by decide))
        refine x_c rfl ?_
        refine x_go rfl ?_
        refine x_retz rfl (Nat.le_of_ble_eq_true rfl) (Nat.le_of_ble_eq_true rfl) rfl (by first | rfl | assumption | exact bI_01 _) ?_
        subst hP
        refine ⟨rfl, _, _, rfl, (hFr2.trans q1).trans (FrP.f1 (by omega)), fun h => absurd h (by show ¬ true = false; decide), fun _ => ⟨?_, ⟨j3 + 1, by rw [udA_t, upd_at], d1, d2⟩, ?_, old3, co3⟩⟩
        · rw [udA_t, upd_ne (by decide), f3, udA_t, upd_ne (by decide)]
        · rw [udA_ne (by decide)]; exact u3
      · rw [if_neg (fun h => k3 (hg2.mpr h))] at hP
        refine x_ifne rfl (fun e9 => absurd rfl e9) (fun e9 => ?_)
        refine x_al rfl rfl ?_
        refine x_call1 (c_fail hT3 g7 gj gp hn4 hn) rfl (Nat.le_of_ble_eq_true rfl) (Or.inl (by first | exact hn | assumption)) (rcv_at (cw_fs (by with_reducible exact sp_1) hn) (by decide) (by decide)) (Nat.le_of_ble_eq_true rfl) (Nat.le_of_ble_eq_true rfl) (fun E w9 hq => hq.elim) ?_
        rintro v9 w9 ⟨rfl, rfl⟩
        refine x_ifeq rfl (fun e9 => ?_) (fun e9 => absurd rfl e9)
        exact l37 _ _ ⟨_, hP.symm, by rw [udA_t, upd_at]⟩ ((hFr2.trans q1).trans (FrP.f1 (by omega)))
end READ
