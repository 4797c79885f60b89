/-! lays of the class: a try, the best; cw_ -/
theorem seek_zero {may : Nat → Int32} {many k i : Nat} {s : skS} (h : may i = 0) : (seekF may many (k + 1) i s).1 = false := by
  unfold seekF
  refine it_inv (I := fun _ : skS => True) (R := fun r : Bool × skS => r.1 = false) ?_ ?_ ?_ 0 (Nat.zero_le _) s trivial
  · intro _ _ _ _ _ _; trivial
  · intro c s r hc _ hs
    unfold seekS at hs
    rw [h, if_pos (Or.inl (bt_0 c))] at hs
    cases hs
  · intro s _; rfl
theorem pairS_lk {row : Nat → Int32} {many : Nat} {ho : Nat → Int32} : ∀ r, (pairS row many ho r).1 ≤ lkN row r := by
  intro r
  induction r with
  | zero => exact Nat.le_refl _
  | succ r ih =>
    show (pairS row many ho r).1 + (if (seekF row many 9 r (0, (pairS row many ho r).2)).1 = true then 1 else 0) ≤ lkN row r + (if (!(row r == 0)) = true then 1 else 0)
    by_cases e : row r = 0
    · rw [if_neg (by rw [seek_zero e]; decide)]
      omega
    · rw [if_pos (show (!(row r == 0)) = true by simpa using e)]
      split <;> omega
theorem rowB_hi {f : Nat → Int32} {a b th : Nat} {q sx sy : Int32} {i j : Nat} (h8 : th ≤ 8) (h1 : th ≤ j) (h2 : j < 8) : bt (rowB f a b th q sx sy i) j = false := by
  unfold rowB
  rw [bt_bits (by omega) (by omega), decide_eq_false (by omega)]
  rfl
theorem TuD.mono {F A F' A' : Nat → Nat → Int32} {f : Nat → Int32} {a ours t : Nat} {x0 y0 x1 y1 : Int32} (h : TuD F A f a ours t x0 y0 x1 y1) (hF : F' 1397 = F 1397) (hA : ∀ q, 1398 ≤ q → q ≤ 1401 → A' q = A q) : TuD F' A' f a ours t x0 y0 x1 y1 := by
  unfold TuD
  rw [hF, hA 1398 (by omega) (by omega), hA 1399 (by omega) (by omega), hA 1400 (by omega) (by omega), hA 1401 (by omega) (by omega)]
  exact h
theorem LoD.mono {F A F' A' : Nat → Nat → Int32} {f : Nat → Int32} {l b th : Nat} (h : LoD F A f l b th) (hF : F' l = F l) (hA : ∀ q, l < q → q ≤ l + 4 → A' q = A q) : LoD F' A' f l b th := by
  unfold LoD
  rw [hF, hA (l + 1) (by omega) (by omega), hA (l + 2) (by omega) (by omega), hA (l + 3) (by omega) (by omega), hA (l + 4) (by omega) (by omega)]
  exact h
/-- the best so far, here and there -/
def LyS (h : Nat → Int32) (bb : bS) : Prop := (h 5 = 0 ∧ BL h (0, 0, 0, 0, 0) ∧ bb = (0, 1000, 0, 0, 0)) ∨ (h 5 = 1 ∧ BL h bb ∧ ¬ bb.2.1 = 1000)
theorem LyS.fin {h : Nat → Int32} {bb : bS} (hs : LyS h bb) : BL h (layE bb) := by
  rcases hs with ⟨_, h1, rfl⟩ | ⟨_, h1, h2⟩
  · exact h1
  · unfold layE
    rw [if_neg h2]
    exact h1
theorem btr_1st {p ag : Nat} {q sx sy : Int32} (hp : p ≤ 8) (ha : ag ≤ 16) : btrB (0, 1000, 0, 0, 0) (nI p) (nI ag) q sx sy = true := by
  have hag3 : ¬ nI ag = 1000 := fun h => by
    have := (nI_eq (a := ag) (b := 1000) (by omega) (by omega)).mp h
    omega
  unfold btrB
  dsimp only
  by_cases e : nI p = 0
  · rw [if_neg (fun h => h e), if_pos hag3, decide_eq_true_iff]
    exact (nI_ltI (a := ag) (b := 1000) (by omega) (by omega)).mpr (by omega)
  · rw [if_pos e, decide_eq_true_iff]
    exact (nI_ltI (a := 0) (by omega) (by omega)).mpr (Nat.pos_of_ne_zero fun h => e (by rw [h]; rfl))
section CALLS
variable {g : aG} {d : Nat} {w : aW} {F A : Nat → Nat → Int32} {L : Nat → Int64} {f : Nat → Int32}
def trQ (w : aW) (F A : Nat → Nat → Int32) (L : Nat → Int64) (bb : bS) : Option Value → aW → Prop := fun v w' => v = none ∧ ∃ h A', w' = cW w (udA F 1396 h) A' L ∧ LyS h bb ∧ h 11 = F 1396 11 ∧ ∀ q, q ≠ 1402 → q ≠ 1403 → A' q = A q
theorem nI_leC {a b : Nat} (h : a ≤ b) (hb : b < 2 ^ 31) : nI a ≤ nI b := (nI_leI (by omega) hb).mpr h
theorem c_tryLay {l a b ours th t : Nat} {x0 y0 x1 y1 sx sy : Int32} {bb : bS} (hl : ShAt l) (hd : l + 4 < 1396) (hT : TuD F A f a ours t x0 y0 x1 y1) (hL : LoD F A f l b th) (hrc : F l 5 = 0 ∧ F l 6 = 0 ∧ F l 7 = 63 ∧ F l 8 = 63) (ho8 : ours ≤ 8) (hm8 : th ≤ 8) (hS : LyS (F 1396) bb) (hn : w.1 = N0) : Ev g (d + 11) 22 [.ref 1396, .ref l, .int (f 1), .int (nI t), .int sx, .int sy] (cW w F A L) (trQ w F A L (triV f a b ours th x0 y0 x1 y1 (nI t) sx sy bb)) noX := by
  unfold triV agN
  have hlk := pairS_lk (row := rowB f a b th (nI t) sx sy) (many := th) (ho := fun _ => -1) ours
  have hlk : pairsV (rowB f a b th (nI t) sx sy) ours th ≤ lkN (rowB f a b th (nI t) sx sy) ours := hlk
  have hlk8 : lkN (rowB f a b th (nI t) sx sy) ours ≤ ours := cn_le _ _
  have hag1 := cn_le (agA (rowB f a b th (nI t) sx sy) f a (nI t) sx sy) ours
  have hag2 := cn_le (agB (allB (rowB f a b th (nI t) sx sy) ours) f b x0 y0 x1 y1 (nI t) sx sy) th
  have hrow : ∀ i, i < ours → mayW (rowB f a b th (nI t) sx sy) (A 1402) ours i = rowB f a b th (nI t) sx sy i := fun i hi => mayW_at hi
  have hpr := fun ho' h3 => (pair_rel (may := rowB f a b th (nI t) sx sy) (may' := mayW (rowB f a b th (nI t) sx sy) (A 1402) ours) (ours := ours) (many := th) (many' := 8) (ho := fun _ => -1) (ho' := ho') hm8 (Nat.le_refl 8) ho8 (fun i hi => (hrow i hi).symm) (fun i hi j h1 h2 => by rw [hrow i hi]; exact rowB_hi hm8 h1 h2) h3 (fun j _ => Or.inl (show (-1 : Int32) < 0 by decide)) ours (Nat.le_refl _)).1
  generalize hrw : rowB f a b th (nI t) sx sy = row at *
  generalize hMW : mayW row (A 1402) ours = MW at *
  have tail : ∀ tr ho l7 l8, l7 = nI (pairsV row ours th) → EX g mbOf (Ev g (d + 10)) (infoOf 22) k_X2_tryLay (trQ w F A L (upB bb (nI (pairsV row ours th)) (nI (cn (agA row f a (nI t) sx sy) ours + cn (agB (allB row ours) f b x0 y0 x1 y1 (nI t) sx sy) th)) (nI t) sx sy)) noX w.1 (cW w (udA F 1396 (upd (F 1396) 9 tr)) (udA (udA A 1402 MW) 1403 ho) L) 0 0 47 [some (.ref 1396), some (.ref l), some (.int (f 1)), some (.int (nI t)), some (.int sx), some (.int sy), some (.int (nI (lkN row ours))), some (.int l7), l8] [] := by
    intro tr ho l7 l8 h7
    subst h7
    refine x_al rfl rfl ?_
    refine x_al rfl rfl ?_
    refine x_il rfl rfl ?_
    refine x_il rfl rfl ?_
    refine x_call4 (c_countAgainst (a := a) (b := b) (t := t) (x0 := x0) (y0 := y0) (x1 := x1) (y1 := y1) (ours := ours) (th := th) (row := row) (f := f) hl hd (hT.mono rfl (fun q h1 h2 => by rw [udA_ne (by omega), udA_ne (by omega)])) (hL.mono (udA_ne (by omega)) (fun q h1 h2 => by rw [udA_ne (by omega), udA_ne (by omega)])) (by rw [udA_ne (by omega)]; exact hrc) (fun i hi => by rw [udA_ne (by decide), udA_t]; exact hrow i hi) ho8 hm8 hn) rfl (Nat.le_of_ble_eq_true rfl) (Or.inl (by first | exact hn | assumption)) (rcv_at (cw_fs (by with_reducible exact sp_1396) hn) (by decide) (by decide)) (Nat.le_of_ble_eq_true rfl) (Nat.le_of_ble_eq_true rfl) (fun E w9 hq => hq.elim) ?_
    rintro v9 w9 ⟨rfl, rfl⟩
    refine x_is (lo' := [_, _, _, _, _, _, _, _, _]) rfl (Nat.le_of_ble_eq_true rfl) rfl ?_
    generalize hag : cn (agA row f a (nI t) sx sy) ours + cn (agB (allB row ours) f b x0 y0 x1 y1 (nI t) sx sy) th = ag at *
    have hag3 : ¬ nI ag = 1000 := fun h => by
      have := (nI_eq (a := ag) (b := 1000) (by omega) (by omega)).mp h
      omega
    have put : EX g mbOf (Ev g (d + 10)) (infoOf 22) k_X2_tryLay (trQ w F A L (nI (pairsV row ours th), nI ag, nI t, sx, sy)) noX w.1 (cW w (udA F 1396 (upd (F 1396) 9 tr)) (udA (udA A 1402 MW) 1403 ho) L) 0 0 64 [some (.ref 1396), some (.ref l), some (.int (f 1)), some (.int (nI t)), some (.int sx), some (.int sy), some (.int (nI (lkN row ours))), some (.int (nI (pairsV row ours th))), some (.int (nI ag))] [] := by
      refine x_al rfl rfl ?_
      refine x_il rfl rfl ?_
      refine x_il rfl rfl ?_
      refine x_il rfl rfl ?_
      refine x_il rfl rfl ?_
      refine x_il rfl rfl ?_
      refine x_call6 (c_take hn) rfl (Nat.le_of_ble_eq_true rfl) (Or.inl (by first | exact hn | assumption)) (rcv_at (cw_fs (by with_reducible exact sp_1396) hn) (by decide) (by decide)) (Nat.le_of_ble_eq_true rfl) (Nat.le_of_ble_eq_true rfl) (fun E w9 hq => hq.elim) ?_
      rintro v9 w9 ⟨rfl, rfl⟩
      refine x_al rfl rfl ?_
      refine x_c rfl ?_
      refine x_putC rfl hn (by with_reducible exact sp_1396) (by exact rfl) (by first | rfl | exact nr_z (by assumption)) rfl ?_
      refine x_retv rfl (Nat.le_of_ble_eq_true rfl) (Nat.le_of_ble_eq_true rfl) rfl ?_
      refine ⟨rfl, _, _, by rw [udA_udA, udA_udA], Or.inr ⟨?_, ?_, hag3⟩, ?_, fun q h1 h2 => by rw [udA_ne h2, udA_ne h1]⟩
      · exact upd_at
      · rw [udA_t, udA_t]
        exact ⟨rfl, rfl, rfl, rfl, rfl⟩
      · rw [udA_t, udA_t, upd_ne (by decide), lyT_o _ _ (by decide), upd_ne (by decide)]
    refine x_al rfl rfl ?_
    refine x_getC rfl hn (by with_reducible exact sp_1396) (by exact rfl) ?_
    rw [show udA F 1396 (upd (F 1396) 9 tr) 1396 5 = F 1396 5 from rfl]
    rcases hS with ⟨s5, sB, rfl⟩ | ⟨s5, sB, sN⟩
    · rw [s5]
      refine x_ifeq rfl (fun c => ?_) (fun c => absurd rfl c)
      rw [upB_btr, if_pos (btr_1st (by omega) (by omega))]
      exact put
    · rw [s5]
      refine x_ifeq rfl (fun c => absurd c (show ¬ (1 : Int32) = 0 by decide)) (fun c => ?_)
      refine x_al rfl rfl ?_
      refine x_il rfl rfl ?_
      refine x_il rfl rfl ?_
      refine x_il rfl rfl ?_
      refine x_il rfl rfl ?_
      refine x_il rfl rfl ?_
      refine x_call6 (c_isBetter (b := bb) (by rw [udA_t]; exact sB) hn) rfl (Nat.le_of_ble_eq_true rfl) (Or.inl (by first | exact hn | assumption)) (rcv_at (cw_fs (by with_reducible exact sp_1396) hn) (by decide) (by decide)) (Nat.le_of_ble_eq_true rfl) (Nat.le_of_ble_eq_true rfl) (fun E w9 hq => hq.elim) ?_
      rintro v9 w9 ⟨rfl, rfl⟩
      rw [upB_btr]
      cases hb : btrB bb (nI (pairsV row ours th)) (nI ag) (nI t) sx sy with
      | true =>
        refine x_ifeq rfl (fun c => absurd c (show ¬ (1 : Int32) = 0 by decide)) (fun c => ?_)
        rw [if_pos rfl]
        exact put
      | false =>
        refine x_ifeq rfl (fun c => ?_) (fun c => absurd rfl c)
        refine x_retv rfl (Nat.le_of_ble_eq_true rfl) (Nat.le_of_ble_eq_true rfl) rfl ?_
        rw [if_neg (by decide)]
        exact ⟨rfl, _, _, rfl, Or.inr ⟨s5, sB, sN⟩, rfl, fun q h1 h2 => by rw [udA_ne h2, udA_ne h1]⟩
  have hres : ∀ ho0, HoOk ours 8 (resetH ho0 8) := fun ho0 j hj => Or.inl (by rw [reset_at hj]; decide)
  have loop2 : ∀ ho0 i, i ≤ ours → ∀ tr, NegM (pairS MW 8 (resetH ho0 8) i).2 → EX g mbOf (Ev g (d + 10)) (infoOf 22) k_X2_tryLay (trQ w F A L (upB bb (nI (pairsV row ours th)) (nI (cn (agA row f a (nI t) sx sy) ours + cn (agB (allB row ours) f b x0 y0 x1 y1 (nI t) sx sy) th)) (nI t) sx sy)) noX w.1 (cW w (udA F 1396 (upd (F 1396) 9 tr)) (udA (udA A 1402 MW) 1403 (pairS MW 8 (resetH ho0 8) i).2) L) 0 0 31 [some (.ref 1396), some (.ref l), some (.int (f 1)), some (.int (nI t)), some (.int sx), some (.int sy), some (.int (nI (lkN row ours))), some (.int (nI (pairS MW 8 (resetH ho0 8) i).1)), some (.int (nI i))] [] := by
    intro ho0
    refine downN ours fun i hi ih => ?_
    intro tr hm
    have hp := pairS_ho (may := MW) (many := 8) ho8 (Nat.le_refl 8) (hres ho0) i hi
    refine x_il rfl rfl ?_
    refine x_al rfl rfl ?_
    refine x_getC rfl hn (by with_reducible exact sp_1396) (by exact rfl) ?_
    refine x_getC rfl hn (by with_reducible exact sh_0 (by first | assumption | exact sh_turned | exact pr_sh (by first | assumption | exact prA (by omega) | exact prD | exact prB (by assumption) (by omega)) | exact ma_sh (by first | assumption | exact maA (by omega) | exact maB (by assumption) (by omega)))) (by exact rfl) ?_
    rw [show udA F 1396 (upd (F 1396) 9 tr) (1396 + 1) 4 = nI ours from hT.1]
    refine x_icgeN rfl (by omega) (fun c => ?_) (fun c => ?_)
    · skip
      obtain rfl : i = ours := by omega
      exact tail tr _ _ _ (congrArg nI (hpr (resetH ho0 8) (fun j hj => (reset_at (by omega)).symm)).symm)
    refine x_al rfl rfl ?_
    refine x_c rfl ?_
    refine x_putC rfl hn (by with_reducible exact sp_1396) (by exact rfl) (by first | rfl | exact nr_z (by assumption)) rfl ?_
    refine x_al rfl rfl ?_
    refine x_il rfl rfl ?_
    refine x_c rfl ?_
    rw [udA_udA, udA_t, upd_upd]
    have hc := c_pair (g := g) (d := d) (w := w) (F := F) (A := udA A 1402 MW) (L := L) ho8 hn 9 0 0 _ i (by omega) c hp.1 hm
    have e : pairS MW 8 (resetH ho0 8) (i + 1) = (((pairS MW 8 (resetH ho0 8) i).1 + (if (seekF MW 8 9 i (0, (pairS MW 8 (resetH ho0 8) i).2)).1 = true then 1 else 0)), (seekF MW 8 9 i (0, (pairS MW 8 (resetH ho0 8) i).2)).2.2) := rfl
    have ih := ih c
    rw [e] at ih
    have m2 := seek_m1 (may := MW) (many := 8) 9 i (0, (pairS MW 8 (resetH ho0 8) i).2) (by omega) hm
    rw [udA_t] at hc
    generalize pairS MW 8 (resetH ho0 8) i = s at *
    obtain ⟨s1, s2⟩ := s
    generalize hr : seekF MW 8 9 i (0, s2) = r at *
    obtain ⟨r1, r2, r3⟩ := r
    refine x_call3 (hc) rfl (Nat.le_of_ble_eq_true rfl) (Or.inl (by first | exact hn | assumption)) (rcv_at (cw_fs (by with_reducible exact sp_1396) hn) (by decide) (by decide)) (Nat.le_of_ble_eq_true rfl) (Nat.le_of_ble_eq_true rfl) (fun E w9 hq => hq.elim) ?_
    rintro v9 w9 ⟨rfl, rfl⟩
    cases r1 with
    | false =>
      refine x_ifeq rfl (fun c => ?_) (fun c => absurd rfl c)
      refine x_inc1 (lo' := [_, _, _, _, _, _, _, _, _]) rfl rfl rfl ?_
      refine x_go rfl ?_
      exact ih r2 m2
    | true =>
      refine x_ifeq rfl (fun c => absurd c (show ¬ (1 : Int32) = 0 by decide)) (fun c => ?_)
      refine x_inc1 (lo' := [_, _, _, _, _, _, _, _, _]) rfl rfl rfl ?_
      refine x_inc1 (lo' := [_, _, _, _, _, _, _, _, _]) rfl rfl rfl ?_
      refine x_go rfl ?_
      exact ih r2 m2
  have loop1 : ∀ ho0 j, j ≤ 8 → ∀ l8, EX g mbOf (Ev g (d + 10)) (infoOf 22) k_X2_tryLay (trQ w F A L (upB bb (nI (pairsV row ours th)) (nI (cn (agA row f a (nI t) sx sy) ours + cn (agB (allB row ours) f b x0 y0 x1 y1 (nI t) sx sy) th)) (nI t) sx sy)) noX w.1 (cW w F (udA (udA A 1402 MW) 1403 (resetH ho0 j)) L) 0 0 17 [some (.ref 1396), some (.ref l), some (.int (f 1)), some (.int (nI t)), some (.int sx), some (.int sy), some (.int (nI (lkN row ours))), some (.int (nI j)), l8] [] := by
    intro ho0
    refine downN 8 fun j hj ih => ?_
    intro l8
    refine x_il rfl rfl ?_
    refine x_c rfl ?_
    refine x_icgeN (y := 8) rfl (by omega) (fun c => ?_) (fun c => ?_)
    · refine x_c rfl ?_
      refine x_is (lo' := [_, _, _, _, _, _, _, _, _]) rfl (Nat.le_of_ble_eq_true rfl) rfl ?_
      refine x_c rfl ?_
      refine x_is (lo' := [_, _, _, _, _, _, _, _, _]) rfl (Nat.le_of_ble_eq_true rfl) rfl ?_
      obtain rfl : j = 8 := by omega
      have := loop2 ho0 0 (Nat.zero_le _) (F 1396 9) (fun j hj _ => reset_at hj)
      rw [upd_self, udA_self] at this
      exact this
    refine x_al rfl rfl ?_
    refine x_getC rfl hn (by with_reducible exact sp_1396) (by exact rfl) ?_
    refine x_il rfl rfl ?_
    refine x_c rfl ?_
    refine x_iasC rfl hn (by with_reducible exact sp_1403) (by omega) ?_
    refine x_inc1 (lo' := [_, _, _, _, _, _, _, _, _]) rfl rfl rfl ?_
    refine x_go rfl ?_
    rw [udA_udA, udA_t]
    exact ih c _
  have at15 : ∀ l7 l8, EX g mbOf (Ev g (d + 10)) (infoOf 22) k_X2_tryLay (trQ w F A L (upB bb (nI (pairsV row ours th)) (nI (cn (agA row f a (nI t) sx sy) ours + cn (agB (allB row ours) f b x0 y0 x1 y1 (nI t) sx sy) th)) (nI t) sx sy)) noX w.1 (cW w F (udA A 1402 MW) L) 0 0 15 [some (.ref 1396), some (.ref l), some (.int (f 1)), some (.int (nI t)), some (.int sx), some (.int sy), some (.int (nI (lkN row ours))), l7, l8] [] := by
    intro l7 l8
    refine x_c rfl ?_
    refine x_is (lo' := [_, _, _, _, _, _, _, _, _]) rfl (Nat.le_of_ble_eq_true rfl) rfl ?_
    have := loop1 (udA A 1402 MW 1403) 0 (Nat.zero_le _) l8
    rw [show resetH (udA A 1402 MW 1403) 0 = udA A 1402 MW 1403 from rfl, udA_self] at this
    exact this
  refine ev_X2_tryLay ?_ (Nat.le_of_ble_eq_true rfl)
  refine x_lo (lo' := [some (.ref 1396), some (.ref l), some (.int (f 1)), some (.int (nI t)), some (.int sx), some (.int sy), none, none, none]) rfl ?_
  refine x_al rfl rfl ?_
  refine x_al rfl rfl ?_
  refine x_il rfl rfl ?_
  refine x_il rfl rfl ?_
  refine x_il rfl rfl ?_
  have hlm := c_linkMates (g := g) (d := d + 8) (w := w) (L := L) (sx := sx) (sy := sy) hl hd hT hL ho8 hm8 hn
  rw [hrw, hMW] at hlm
  refine x_call5 (hlm) rfl (Nat.le_of_ble_eq_true rfl) (Or.inl (by first | exact hn | assumption)) (rcv_at (cw_fs (by with_reducible exact sp_1396) hn) (by decide) (by decide)) (Nat.le_of_ble_eq_true rfl) (Nat.le_of_ble_eq_true rfl) (fun E w9 hq => hq.elim) ?_
  rintro v9 w9 ⟨rfl, rfl⟩
  refine x_is (lo' := [_, _, _, _, _, _, _, _, _]) rfl (Nat.le_of_ble_eq_true rfl) rfl ?_
  refine x_al rfl rfl ?_
  refine x_getC rfl hn (by with_reducible exact sp_1396) (by exact rfl) ?_
  rcases hS with ⟨s5, sB, rfl⟩ | ⟨s5, sB, sN⟩
  · rw [s5]
    refine x_ifeq rfl (fun c => ?_) (fun c => absurd rfl c)
    exact at15 _ _
  · rw [s5]
    refine x_ifeq rfl (fun c => absurd c (show ¬ (1 : Int32) = 0 by decide)) (fun c => ?_)
    refine x_il rfl rfl ?_
    refine x_al rfl rfl ?_
    refine x_getC rfl hn (by with_reducible exact sp_1396) (by exact rfl) ?_
    rw [sB.1]
    refine x_icge rfl (fun c1 => ?_) (fun c1 => ?_)
    · skip
      exact at15 _ _
    refine x_retv rfl (Nat.le_of_ble_eq_true rfl) (Nat.le_of_ble_eq_true rfl) rfl ?_
    have hlt : nI (pairsV row ours th) < bb.1 := by
      have h1 := nI_leC hlk (by omega)
      have h2 := Int32.not_le.mp c1
      rw [Int32.lt_iff_toInt_lt] at h2 ⊢
      rw [Int32.le_iff_toInt_le] at h1
      omega
    rw [show ∀ x, upB bb (nI (pairsV row ours th)) x (nI t) sx sy = bb from fun x => by unfold upB; rw [if_pos (Or.inl hlt)]]
    exact ⟨rfl, F 1396, udA A 1402 MW, by rw [udA_self], Or.inr ⟨s5, sB, sN⟩, rfl, fun q h1 h2 => udA_ne h1⟩
end CALLS
