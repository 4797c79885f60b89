/-! the class reads conditions; cw_ -/
/-- what reading leaves as it was -/
def FrP (F A F' A' : Nat → Nat → Int32) : Prop := (∀ q, q ≠ 1 → q ≠ 1414 → F' q = F q) ∧ (∀ k, k ≠ 2 → k ≠ 7 → F' 1 k = F 1 k) ∧ (∀ k, k ≠ 2 → F' 1414 k = F 1414 k) ∧ ∀ q, q ≠ 1419 → A' q = A q
/-- steps as the class's code holds them -/
def CoR (h : Nat → Int32) (u : Nat) (L : List (Int32 × Int32)) : Prop := ∀ i x, L[i]? = some x → EncR x.1 x.2 (h (u + i))
def CQ (w : aW) (F A : Nat → Nat → Int32) (L : Nat → Int64) (t : Nat → Int32) (b : Nat → Nat) (en n u : Nat) (R : PR) : Option Value → aW → Prop := fun v w' => v = some (.int (bI R.1)) ∧ ∃ F' A', w' = cW w F' A' L ∧ FrP F A F' A' ∧ (R.1 = false → F' 1 2 = nI R.2.2.1) ∧ (R.1 = true → F' 1 2 = F 1 2 ∧ (∃ j', F' 1 7 = nI j' ∧ j' ≤ n ∧ wS t en (PP t b en j') = wS t en R.2.1) ∧ F' 1414 2 = nI (u + R.2.2.2.length) ∧ (∀ i, i < u → A' 1419 i = A 1419 i) ∧ CoR (A' 1419) u R.2.2.2)
/-- the class reads the item just as it should -/
def RdC (g : aG) (D mid : Nat) (t : Nat → Int32) (b : Nat → Nat) (en n dp : Nat) (item : Nat → PR) : Prop := ∀ (w : aW) (F A : Nat → Nat → Int32) (L : Nat → Int64) (p j u : Nat), w.1 = N0 → TkA F A t b en n → F 1 7 = nI j → j ≤ n → wS t en (PP t b en j) = wS t en p → p ≤ en → F 1414 2 = nI u → u ≤ p → Ev g D mid [.ref 1414, .ref 1, .int (nI dp)] (cW w F A L) (CQ w F A L t b en n u (item p)) noX
section K
variable {F A F' A' : Nat → Nat → Int32} {t : Nat → Int32} {b : Nat → Nat} {en n : Nat}
theorem FrP.refl : FrP F A F A := ⟨fun _ _ _ => rfl, fun _ _ _ => rfl, fun _ _ => rfl, fun _ _ => rfl⟩
theorem FrP.trans {F2 A2 : Nat → Nat → Int32} (h : FrP F A F' A') (h2 : FrP F' A' F2 A2) : FrP F A F2 A2 := ⟨fun q a c => (h2.1 q a c).trans (h.1 q a c), fun k a c => (h2.2.1 k a c).trans (h.2.1 k a c), fun k a => (h2.2.2.1 k a).trans (h.2.2.1 k a), fun q a => (h2.2.2.2 q a).trans (h.2.2.2 q a)⟩
theorem FrP.tk (h : FrP F A F' A') (hT : TkA F A t b en n) : TkA F' A' t b en n := hT.keep (h.2.1 1 (by decide) (by decide)) (h.2.1 6 (by decide) (by decide)) (fun q hq => h.2.2.2 q (by omega))
theorem FrP.f1 {k : Nat} {x : Int32} (hk : k = 2 ∨ k = 7) : FrP F A (udA F 1 (upd (F 1) k x)) A := ⟨fun q a _ => udA_ne a, fun k' a c => by rw [udA_t, upd_ne (by omega)], fun k' _ => by rw [udA_ne (by decide)], fun _ _ => rfl⟩
theorem FrP.em {u : Nat} {x y : Int32} : FrP F A (udA F 1414 (upd (F 1414) 2 x)) (udA A 1419 (upd (A 1419) u y)) := ⟨fun q _ a => udA_ne a, fun k _ _ => by rw [udA_ne (by decide)], fun k a => by rw [udA_t, upd_ne a], fun q a => udA_ne a⟩
theorem CoR.nil {h : Nat → Int32} {u : Nat} : CoR h u [] := fun i x hx => by simp at hx
theorem CoR.app {h : Nat → Int32} {u : Nat} {L L' : List (Int32 × Int32)} (h1 : CoR h u L) (h2 : CoR h (u + L.length) L') : CoR h u (L ++ L') := fun i x hx => by
  rcases Nat.lt_or_ge i L.length with c | c
  · rw [List.getElem?_append_left c] at hx
    exact h1 i x hx
  · rw [List.getElem?_append_right c] at hx
    have := h2 (i - L.length) x hx
    rw [show u + L.length + (i - L.length) = u + i by omega] at this
    exact this
theorem CoR.one {h : Nat → Int32} {u : Nat} {x y : Int32} (hx : EncR x y (h u)) : CoR h u [(x, y)] := fun i z hz => by
  cases i with
  | zero =>
    have : (x, y) = z := by simpa using hz
    subst this
    exact hx
  | succ i => simp at hz
theorem CoR.congr {h h' : Nat → Int32} {u m : Nat} {L : List (Int32 × Int32)} (h1 : CoR h u L) (hl : u + L.length ≤ m) (hh : ∀ i, i < m → h' i = h i) : CoR h' u L := fun i x hx => by
  have : i < L.length := by
    rcases Nat.lt_or_ge i L.length with h3 | h3
    · exact h3
    · rw [List.getElem?_eq_none h3] at hx; cases hx
  rw [hh _ (by omega)]
  exact h1 i x hx
end K
section READ
variable {g : aG} {e dp en n : Nat} {t : Nat → Int32} {b : Nat → Nat} {c : Nat → Int32}
theorem c_readAll {item : Nat → PR} (hB : TpR t c en b) (hen : en ≤ 400) (hn4 : n ≤ 400) (hI : IB en item) (hA : RdC g (e + 7) 48 t b en n dp item) : RdC g (e + 8) 47 t b en n dp (pSeq item t en 18 301) := by
  intro w F A L p j u hn hT h7 hj hp hpe h2 hu
  generalize hP : pSeq item t en 18 301 p = P
  unfold pSeq at hP
  have fail : ∀ (z : Nat) (F' A' : Nat → Nat → Int32), P.1 = false → FrP F A F' A' → F' 1 2 = nI P.2.2.1 → EX g mbOf (Ev g (e + 7)) (infoOf 47) k_X5_readAll (CQ w F A L t b en n u P) noX w.1 (cW w F' A' L) 0 0 18 [some (.ref 1414), some (.ref 1), some (.int (nI dp)), some (.int (nI z))] [] := by
    intro z F' A' h1 h3 h4
    refine x_c rfl ?_
    refine x_retz rfl (Nat.le_of_ble_eq_true rfl) (Nat.le_of_ble_eq_true rfl) rfl (by first | rfl | assumption | exact bI_01 _) ?_
    exact ⟨by rw [h1]; rfl, F', A', rfl, h3, fun _ => h4, fun h => absurd (h1.symm.trans h) (by decide)⟩
  have loop : ∀ fuel z p1 Ls (F1 A1 : Nat → Nat → Int32), en - p1 < fuel → p1 ≤ en → p + Ls.length ≤ p1 → 2 * z ≤ p1 → FrP F A F1 A1 → F1 1 2 = F 1 2 → (∃ j', F1 1 7 = nI j' ∧ j' ≤ n ∧ wS t en (PP t b en j') = wS t en p1) → F1 1414 2 = nI (u + Ls.length) → (∀ i, i < u → A1 1419 i = A 1419 i) → CoR (A1 1419) u Ls → pLoop item t en 18 301 fuel p1 Ls = P → EX g mbOf (Ev g (e + 7)) (infoOf 47) k_X5_readAll (CQ w F A L t b en n u P) noX w.1 (cW w F1 A1 L) 0 0 20 [some (.ref 1414), some (.ref 1), some (.int (nI dp)), some (.int (nI z))] [] := by
    intro fuel
    induction fuel with
    | zero => intro z p1 Ls F1 A1 h; omega
    | succ fuel ih =>
      intro z p1 Ls F1 A1 hf hp1 hpL hz hFr hf2 hj1 hu1 hold hco hR
      obtain ⟨j1, a7, aj, ap⟩ := hj1
      have hT1 := hFr.tk hT
      have e1 : wE t en p1 ≤ en := wE_le hp1
      have e3 := wS_ge (t := t) (en := en) (p := p1)
      have e4 := wE_ge (t := t) (en := en) (p := p1)
      unfold pLoop at hR
      have hw : tokV t b en (wS t en p1) = 7 ↔ wdB t (wE t en p1) (wS t en p1) 18 = true := tok_word (i := 7) hB hp1 (by decide)
      refine x_al rfl rfl ?_
      refine x_c rfl ?_
      refine x_call2 (c_takeT hT1 a7 aj ap hn4 hn) rfl (Nat.le_of_ble_eq_true rfl) (Or.inl (by first | exact hn | assumption)) (rcv_at (cw_fs (by with_reducible exact sp_1) hn) (by decide) (by decide)) (Nat.le_of_ble_eq_true rfl) (Nat.le_of_ble_eq_true rfl) (fun E w9 hq => hq.elim) ?_
      rintro v9 w9 hh
      rcases hh with ⟨k1, rfl, rfl⟩ | ⟨k1, rfl, rfl⟩
      · have hw1 : wdB t (wE t en p1) (wS t en p1) 18 = true := hw.mp k1
        rw [if_pos hw1] at hR
        have hlen := wd_len hw1
        have hlen2 : 2 ≤ txN 18 := by decide
        obtain ⟨b1, b2⟩ := pos_word (i := 7) hB hT1 aj ap hp1 (by decide) hw1
        refine x_ifne rfl (fun e9 => ?_) (fun e9 => absurd e9 (show ¬ (1 : Int32) = 0 by decide))
        refine x_inc1 (lo' := [_, _, _, _]) rfl rfl rfl ?_
        refine x_go rfl ?_
        refine x_il rfl rfl ?_
        refine x_c rfl ?_
        refine x_icgeN (y := 400) rfl (by omega) (fun c => by omega) (fun c => ?_)
        refine x_al rfl rfl ?_
        refine x_al rfl rfl ?_
        refine x_il rfl rfl ?_
        have hFr2 : FrP F A (udA F1 1 (upd (F1 1) 7 (nI (j1 + 1)))) A1 := hFr.trans (FrP.f1 (by omega))
        refine x_call3 (hA w (udA F1 1 (upd (F1 1) 7 (nI (j1 + 1)))) A1 L (wE t en p1) (j1 + 1) (u + Ls.length) hn (hFr2.tk hT) (by rw [udA_t, upd_at]) b1 b2 e1 (by rw [udA_ne (by decide)]; exact hu1) (by omega)) rfl (Nat.le_of_ble_eq_true rfl) (Or.inl (by first | exact hn | assumption)) (rcv_at (cw_fs (by with_reducible exact te_0 (by first | assumption | exact teA (by omega) | exact teN | exact teD | exact te_b (by assumption) | exact teB (by assumption) (by omega))) hn) (by decide) (by decide)) (Nat.le_of_ble_eq_true rfl) (Nat.le_of_ble_eq_true rfl) (fun E w9 hq => hq.elim) ?_
        rintro v9 w9 ⟨rfl, F3, A3, rfl, q1, q2, q3⟩
        cases hok : (item (wE t en p1)).1 with
        | false =>
          rw [if_neg (by rw [hok]; decide)] at hR
          subst hR
          refine x_ifeq rfl (fun e9 => ?_) (fun e9 => absurd rfl e9)
          exact fail _ F3 A3 rfl (hFr2.trans q1) (q2 hok)
        | true =>
          rw [if_pos hok] at hR
          obtain ⟨f3, ⟨j3, g7, gj, gp⟩, u3, old3, co3⟩ := q3 hok
          have hb2 := hI _ e1 hok
          refine x_ifeq rfl (fun e9 => absurd e9 (show ¬ (1 : Int32) = 0 by decide)) (fun e9 => ?_)
          refine x_il rfl rfl ?_
          refine x_ifle rfl (fun e9 => absurd e9 (nI_nle (by omega) (by omega))) (fun e9 => ?_)
          refine x_al rfl rfl ?_
          refine x_c rfl ?_
          refine x_c rfl ?_
          refine x_c rfl ?_
          refine x_call4 (c_emit u3 (by omega) hn) rfl (Nat.le_of_ble_eq_true rfl) (Or.inl (by first | exact hn | assumption)) (rcv_at (cw_fs (by with_reducible exact te_0 (by first | assumption | exact teA (by omega) | exact teN | exact teD | exact te_b (by assumption) | exact teB (by assumption) (by omega))) hn) (by decide) (by decide)) (Nat.le_of_ble_eq_true rfl) (Nat.le_of_ble_eq_true rfl) (fun E w9 hq => hq.elim) ?_
          rintro v9 w9 ⟨rfl, rfl⟩
          refine x_ifne rfl (fun e9 => ?_) (fun e9 => absurd e9 (show ¬ (1 : Int32) = 0 by decide))
          refine ih (z + 1) _ (Ls ++ ((item (wE t en p1)).2.2.2 ++ [(301, 0)])) _ _ (by omega) hb2.2.2 ?_ (by omega) ((hFr2.trans q1).trans FrP.em) ?_ ⟨j3, ?_, gj, gp⟩ ?_ (fun i hi => ?_) ?_ hR
          · rw [List.length_append, List.length_append]
            show p + (Ls.length + ((item (wE t en p1)).2.2.2.length + 1)) ≤ _
            omega
          · rw [udA_ne (by decide), f3, udA_t, upd_ne (by decide)]; exact hf2
          · rw [udA_ne (by decide)]; exact g7
          · rw [udA_t, upd_at, List.length_append, List.length_append]
            refine congrArg nI ?_
            show _ = u + (Ls.length + ((item (wE t en p1)).2.2.2.length + 1))
            omega
          · rw [udA_t, upd_ne (by omega), old3 i (by omega)]
            exact hold i hi
          · rw [udA_t]
            refine CoR.app (CoR.congr hco (Nat.le_refl _) fun i hi => ?_) (CoR.app (CoR.congr co3 (Nat.le_refl _) fun i hi => ?_) (CoR.one ?_))
            · rw [upd_ne (by omega), old3 i hi]
            · rw [upd_ne (by omega)]
            · rw [upd_at]
              exact Or.inr (Or.inl ⟨rfl, by decide⟩)
      · rw [if_neg (fun h => k1 (hw.mpr h))] at hR
        subst hR
        refine x_ifne rfl (fun e9 => absurd rfl e9) (fun e9 => ?_)
        refine x_c rfl ?_
        refine x_retz rfl (Nat.le_of_ble_eq_true rfl) (Nat.le_of_ble_eq_true rfl) rfl (by first | rfl | assumption | exact bI_01 _) ?_
        exact ⟨rfl, F1, A1, rfl, hFr, fun h => absurd h (by show ¬ true = false; decide), fun _ => ⟨hf2, ⟨j1, a7, aj, ap.trans (runs_idem hp1).symm⟩, hu1, hold, hco⟩⟩
  refine ev_X5_readAll ?_ (Nat.le_of_ble_eq_true rfl)
  refine x_lo (lo' := [some (.ref 1414), some (.ref 1), some (.int (nI dp)), none]) rfl ?_
  refine x_c rfl ?_
  refine x_is (lo' := [_, _, _, _]) rfl (Nat.le_of_ble_eq_true rfl) rfl ?_
  refine x_il rfl rfl ?_
  refine x_c rfl ?_
  refine x_icgeN (x := 0) (y := 400) rfl (by omega) (fun c => by omega) (fun c => ?_)
  refine x_al rfl rfl ?_
  refine x_al rfl rfl ?_
  refine x_il rfl rfl ?_
  refine x_call3 (hA w F A L p j u hn hT h7 hj hp hpe h2 hu) rfl (Nat.le_of_ble_eq_true rfl) (Or.inl (by first | exact hn | assumption)) (rcv_at (cw_fs (by with_reducible exact te_0 (by first | assumption | exact teA (by omega) | exact teN | exact teD | exact te_b (by assumption) | exact teB (by assumption) (by omega))) hn) (by decide) (by decide)) (Nat.le_of_ble_eq_true rfl) (Nat.le_of_ble_eq_true rfl) (fun E w9 hq => hq.elim) ?_
  rintro v9 w9 ⟨rfl, F3, A3, rfl, q1, q2, q3⟩
  cases hok : (item p).1 with
  | false =>
    rw [if_neg (by rw [hok]; decide)] at hP
    subst hP
    refine x_ifeq rfl (fun e9 => ?_) (fun e9 => absurd rfl e9)
    exact fail 0 F3 A3 rfl q1 (q2 hok)
  | true =>
    rw [if_pos hok] at hP
    obtain ⟨f3, hj3, u3, old3, co3⟩ := q3 hok
    have hb2 := hI _ hpe hok
    refine x_ifeq rfl (fun e9 => absurd e9 (show ¬ (1 : Int32) = 0 by decide)) (fun e9 => ?_)
    refine x_il rfl rfl ?_
    refine x_ifle rfl (fun e9 => ?_) (fun e9 => absurd (show (0 : Int32) ≤ 0 by decide) e9)
    exact loop (en + 1) 0 _ _ F3 A3 (by omega) hb2.2.2 hb2.1 (by omega) q1 f3 hj3 u3 old3 co3 hP
theorem c_readAny {item : Nat → PR} (hB : TpR t c en b) (hen : en ≤ 400) (hn4 : n ≤ 400) (hI : IB en item) (hA : RdC g (e + 7) 47 t b en n dp item) : RdC g (e + 8) 46 t b en n dp (pSeq item t en 19 302) := by
  intro w F A L p j u hn hT h7 hj hp hpe h2 hu
  generalize hP : pSeq item t en 19 302 p = P
  unfold pSeq at hP
  have fail : ∀ (z : Nat) (F' A' : Nat → Nat → Int32), P.1 = false → FrP F A F' A' → F' 1 2 = nI P.2.2.1 → EX g mbOf (Ev g (e + 7)) (infoOf 46) k_X5_readAny (CQ w F A L t b en n u P) noX w.1 (cW w F' A' L) 0 0 18 [some (.ref 1414), some (.ref 1), some (.int (nI dp)), some (.int (nI z))] [] := by
    intro z F' A' h1 h3 h4
    refine x_c rfl ?_
    refine x_retz rfl (Nat.le_of_ble_eq_true rfl) (Nat.le_of_ble_eq_true rfl) rfl (by first | rfl | assumption | exact bI_01 _) ?_
    exact ⟨by rw [h1]; rfl, F', A', rfl, h3, fun _ => h4, fun h => absurd (h1.symm.trans h) (by decide)⟩
  have loop : ∀ fuel z p1 Ls (F1 A1 : Nat → Nat → Int32), en - p1 < fuel → p1 ≤ en → p + Ls.length ≤ p1 → 2 * z ≤ p1 → FrP F A F1 A1 → F1 1 2 = F 1 2 → (∃ j', F1 1 7 = nI j' ∧ j' ≤ n ∧ wS t en (PP t b en j') = wS t en p1) → F1 1414 2 = nI (u + Ls.length) → (∀ i, i < u → A1 1419 i = A 1419 i) → CoR (A1 1419) u Ls → pLoop item t en 19 302 fuel p1 Ls = P → EX g mbOf (Ev g (e + 7)) (infoOf 46) k_X5_readAny (CQ w F A L t b en n u P) noX w.1 (cW w F1 A1 L) 0 0 20 [some (.ref 1414), some (.ref 1), some (.int (nI dp)), some (.int (nI z))] [] := by
    intro fuel
    induction fuel with
    | zero => intro z p1 Ls F1 A1 h; omega
    | succ fuel ih =>
      intro z p1 Ls F1 A1 hf hp1 hpL hz hFr hf2 hj1 hu1 hold hco hR
      obtain ⟨j1, a7, aj, ap⟩ := hj1
      have hT1 := hFr.tk hT
      have e1 : wE t en p1 ≤ en := wE_le hp1
      have e3 := wS_ge (t := t) (en := en) (p := p1)
      have e4 := wE_ge (t := t) (en := en) (p := p1)
      unfold pLoop at hR
      have hw : tokV t b en (wS t en p1) = 8 ↔ wdB t (wE t en p1) (wS t en p1) 19 = true := tok_word (i := 8) hB hp1 (by decide)
      refine x_al rfl rfl ?_
      refine x_c rfl ?_
      refine x_call2 (c_takeT hT1 a7 aj ap hn4 hn) rfl (Nat.le_of_ble_eq_true rfl) (Or.inl (by first | exact hn | assumption)) (rcv_at (cw_fs (by with_reducible exact sp_1) hn) (by decide) (by decide)) (Nat.le_of_ble_eq_true rfl) (Nat.le_of_ble_eq_true rfl) (fun E w9 hq => hq.elim) ?_
      rintro v9 w9 hh
      rcases hh with ⟨k1, rfl, rfl⟩ | ⟨k1, rfl, rfl⟩
      · have hw1 : wdB t (wE t en p1) (wS t en p1) 19 = true := hw.mp k1
        rw [if_pos hw1] at hR
        have hlen := wd_len hw1
        have hlen2 : 2 ≤ txN 19 := by decide
        obtain ⟨b1, b2⟩ := pos_word (i := 8) hB hT1 aj ap hp1 (by decide) hw1
        refine x_ifne rfl (fun e9 => ?_) (fun e9 => absurd e9 (show ¬ (1 : Int32) = 0 by decide))
        refine x_inc1 (lo' := [_, _, _, _]) rfl rfl rfl ?_
        refine x_go rfl ?_
        refine x_il rfl rfl ?_
        refine x_c rfl ?_
        refine x_icgeN (y := 400) rfl (by omega) (fun c => by omega) (fun c => ?_)
        refine x_al rfl rfl ?_
        refine x_al rfl rfl ?_
        refine x_il rfl rfl ?_
        have hFr2 : FrP F A (udA F1 1 (upd (F1 1) 7 (nI (j1 + 1)))) A1 := hFr.trans (FrP.f1 (by omega))
        refine x_call3 (hA w (udA F1 1 (upd (F1 1) 7 (nI (j1 + 1)))) A1 L (wE t en p1) (j1 + 1) (u + Ls.length) hn (hFr2.tk hT) (by rw [udA_t, upd_at]) b1 b2 e1 (by rw [udA_ne (by decide)]; exact hu1) (by omega)) rfl (Nat.le_of_ble_eq_true rfl) (Or.inl (by first | exact hn | assumption)) (rcv_at (cw_fs (by with_reducible exact te_0 (by first | assumption | exact teA (by omega) | exact teN | exact teD | exact te_b (by assumption) | exact teB (by assumption) (by omega))) hn) (by decide) (by decide)) (Nat.le_of_ble_eq_true rfl) (Nat.le_of_ble_eq_true rfl) (fun E w9 hq => hq.elim) ?_
        rintro v9 w9 ⟨rfl, F3, A3, rfl, q1, q2, q3⟩
        cases hok : (item (wE t en p1)).1 with
        | false =>
          rw [if_neg (by rw [hok]; decide)] at hR
          subst hR
          refine x_ifeq rfl (fun e9 => ?_) (fun e9 => absurd rfl e9)
          exact fail _ F3 A3 rfl (hFr2.trans q1) (q2 hok)
        | true =>
          rw [if_pos hok] at hR
          obtain ⟨f3, ⟨j3, g7, gj, gp⟩, u3, old3, co3⟩ := q3 hok
          have hb2 := hI _ e1 hok
          refine x_ifeq rfl (fun e9 => absurd e9 (show ¬ (1 : Int32) = 0 by decide)) (fun e9 => ?_)
          refine x_il rfl rfl ?_
          refine x_ifle rfl (fun e9 => absurd e9 (nI_nle (by omega) (by omega))) (fun e9 => ?_)
          refine x_al rfl rfl ?_
          refine x_c rfl ?_
          refine x_c rfl ?_
          refine x_c rfl ?_
          refine x_call4 (c_emit u3 (by omega) hn) rfl (Nat.le_of_ble_eq_true rfl) (Or.inl (by first | exact hn | assumption)) (rcv_at (cw_fs (by with_reducible exact te_0 (by first | assumption | exact teA (by omega) | exact teN | exact teD | exact te_b (by assumption) | exact teB (by assumption) (by omega))) hn) (by decide) (by decide)) (Nat.le_of_ble_eq_true rfl) (Nat.le_of_ble_eq_true rfl) (fun E w9 hq => hq.elim) ?_
          rintro v9 w9 ⟨rfl, rfl⟩
          refine x_ifne rfl (fun e9 => ?_) (fun e9 => absurd e9 (show ¬ (1 : Int32) = 0 by decide))
          refine ih (z + 1) _ (Ls ++ ((item (wE t en p1)).2.2.2 ++ [(302, 0)])) _ _ (by omega) hb2.2.2 ?_ (by omega) ((hFr2.trans q1).trans FrP.em) ?_ ⟨j3, ?_, gj, gp⟩ ?_ (fun i hi => ?_) ?_ hR
          · rw [List.length_append, List.length_append]
            show p + (Ls.length + ((item (wE t en p1)).2.2.2.length + 1)) ≤ _
            omega
          · rw [udA_ne (by decide), f3, udA_t, upd_ne (by decide)]; exact hf2
          · rw [udA_ne (by decide)]; exact g7
          · rw [udA_t, upd_at, List.length_append, List.length_append]
            refine congrArg nI ?_
            show _ = u + (Ls.length + ((item (wE t en p1)).2.2.2.length + 1))
            omega
          · rw [udA_t, upd_ne (by omega), old3 i (by omega)]
            exact hold i hi
          · rw [udA_t]
            refine CoR.app (CoR.congr hco (Nat.le_refl _) fun i hi => ?_) (CoR.app (CoR.congr co3 (Nat.le_refl _) fun i hi => ?_) (CoR.one ?_))
            · rw [upd_ne (by omega), old3 i hi]
            · rw [upd_ne (by omega)]
            · rw [upd_at]
              exact Or.inr (Or.inr (Or.inl ⟨rfl, by decide⟩))
      · rw [if_neg (fun h => k1 (hw.mpr h))] at hR
        subst hR
        refine x_ifne rfl (fun e9 => absurd rfl e9) (fun e9 => ?_)
        refine x_c rfl ?_
        refine x_retz rfl (Nat.le_of_ble_eq_true rfl) (Nat.le_of_ble_eq_true rfl) rfl (by first | rfl | assumption | exact bI_01 _) ?_
        exact ⟨rfl, F1, A1, rfl, hFr, fun h => absurd h (by show ¬ true = false; decide), fun _ => ⟨hf2, ⟨j1, a7, aj, ap.trans (runs_idem hp1).symm⟩, hu1, hold, hco⟩⟩
  refine ev_X5_readAny ?_ (Nat.le_of_ble_eq_true rfl)
  refine x_lo (lo' := [some (.ref 1414), some (.ref 1), some (.int (nI dp)), none]) rfl ?_
  refine x_c rfl ?_
  refine x_is (lo' := [_, _, _, _]) rfl (Nat.le_of_ble_eq_true rfl) rfl ?_
  refine x_il rfl rfl ?_
  refine x_c rfl ?_
  refine x_icgeN (x := 0) (y := 400) rfl (by omega) (fun c => by omega) (fun c => ?_)
  refine x_al rfl rfl ?_
  refine x_al rfl rfl ?_
  refine x_il rfl rfl ?_
  refine x_call3 (hA w F A L p j u hn hT h7 hj hp hpe h2 hu) rfl (Nat.le_of_ble_eq_true rfl) (Or.inl (by first | exact hn | assumption)) (rcv_at (cw_fs (by with_reducible exact te_0 (by first | assumption | exact teA (by omega) | exact teN | exact teD | exact te_b (by assumption) | exact teB (by assumption) (by omega))) hn) (by decide) (by decide)) (Nat.le_of_ble_eq_true rfl) (Nat.le_of_ble_eq_true rfl) (fun E w9 hq => hq.elim) ?_
  rintro v9 w9 ⟨rfl, F3, A3, rfl, q1, q2, q3⟩
  cases hok : (item p).1 with
  | false =>
    rw [if_neg (by rw [hok]; decide)] at hP
    subst hP
    refine x_ifeq rfl (fun e9 => ?_) (fun e9 => absurd rfl e9)
    exact fail 0 F3 A3 rfl q1 (q2 hok)
  | true =>
    rw [if_pos hok] at hP
    obtain ⟨f3, hj3, u3, old3, co3⟩ := q3 hok
    have hb2 := hI _ hpe hok
    refine x_ifeq rfl (fun e9 => absurd e9 (show ¬ (1 : Int32) = 0 by decide)) (fun e9 => ?_)
    refine x_il rfl rfl ?_
    refine x_ifle rfl (fun e9 => ?_) (fun e9 => absurd (show (0 : Int32) ≤ 0 by decide) e9)
    exact loop (en + 1) 0 _ _ F3 A3 (by omega) hb2.2.2 hb2.1 (by omega) q1 f3 hj3 u3 old3 co3 hP
end READ
