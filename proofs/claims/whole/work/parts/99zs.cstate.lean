/-! tables and the State -/
def oTab (wd : Int32) (n q : Nat) : List bO := .inr (8, [.int 200, .int wd, .ref (q + 1), .int 0]) :: ([.inl (0, n, [])])
def stF (q : Nat) : List Value := [.int 0, .int 1, .int 10, .int 0, .int 0, .int 0, .int 0, .int 0, .ref (q + 1), .ref (q + 2), .ref (q + 3), .ref (q + 4), .ref (q + 5), .ref (q + 11), .ref (q + 13)]
def hdS (q : Nat) (r1 r2 r3 r4 : List Nat) : List bO := .inr (7, stF q) :: .inl (4, 60, r1) :: .inl (5, 20, r2) :: .inl (6, 16, r3) :: .inl (7, 10, r4) :: (oText (q + 5) ++ oTab 6 1200 (q + 11) ++ oTab 7 1400 (q + 13))
def oState (q : Nat) : List bO := hdS q (rs (q + 15) 7 60) (rs (q + 435) 6 20) (rs (q + 555) 5 16) (rs (q + 635) 6 10) ++ blk oPrint (q + 15) 7 60 ++ blk oMark (q + 435) 6 20 ++ blk oCard (q + 555) 5 16 ++ blk oText (q + 635) 6 10
theorem oState_len {q : Nat} : (oState q).length = 695 := by
  unfold oState
  rw [List.length_append, List.length_append, List.length_append, List.length_append, blk_len (s := 7) (fun _ => rfl), blk_len (s := 6) (fun _ => rfl), blk_len (s := 5) (fun _ => rfl), blk_len (s := 6) (fun _ => rfl)]
  show 15 + 7 * 60 + 6 * 20 + 5 * 16 + 6 * 10 = 695
  rfl
section CT
variable {g : aG} {d : Nat}
theorem y_w {I : aInfo} {K : List aI} {Qr : Option Value → aW → Prop} {Qx : String → aW → Prop} {nb uc us i : Nat} {lo : List (Option Value)} {st : List Value} {z : Nat → va_E} {l xs xs' : List bO} (h : xs = xs') (k : EX g mbOf (Ev g d) I K Qr Qx nb (wB z (l ++ xs')) uc us i lo st) : EX g mbOf (Ev g d) I K Qr Qx nb (wB z (l ++ xs)) uc us i lo st := by
  rw [h]
  exact k
theorem y_call3 {I : aInfo} {K : List aI} {Qr : Option Value → aW → Prop} {Qx : String → aW → Prop} {nb uc us i q : Nat} {lo : List (Option Value)} {st : List Value} {z : Nat → va_E} {l xs xs' : List bO} {mid ci n : Nat} {P : Nat → List bO} {xs0 : List bO} {a1 a2 : Value} (hc : ∀ (z : Nat → va_E) (l : List bO), l.length + n ≤ N0 → Ev g d mid [.ref l.length, a1, a2] (wB z (l ++ [.inr (ci, dfA ci)])) (fun v W => v = none ∧ W = wB z (l ++ P l.length)) noX) (hK : K[i]? = some (aV mid 3 [100])) (hN : l.length + xs0.length + n ≤ N0) (hx : xs0 ++ [.inr (ci, dfA ci)] = xs) (hq : l.length + xs0.length = q) (h2 : l.length + xs.length = nb + uc) (hs : stW st ≤ 8) (h3 : uc + (mbOf mid).1 ≤ I.1) (h4 : us + (mbOf mid).2 ≤ I.2.1) (hx' : xs0 ++ P q = xs') (k : EX g mbOf (Ev g d) I K Qr Qx nb (wB z (l ++ xs')) (uc + (mbOf mid).1) (us + (mbOf mid).2) (i + 1) lo st) : EX g mbOf (Ev g d) I K Qr Qx nb (wB z (l ++ xs)) uc us i lo (a2 :: a1 :: .ref q :: st) := by
  subst hx hx' hq
  have el : (l ++ xs0).length = l.length + xs0.length := List.length_append
  have h := hc z (l ++ xs0) (by rw [el]; exact hN)
  rw [List.append_assoc, List.append_assoc, el] at h
  refine x_inv (as := [.ref (l.length + xs0.length), a1, a2]) (rest := st) hK rfl rfl hs (Or.inr (List.length_append.trans h2)) trivial h3 h4 h (fun v w hq => ?_) (fun E w hx => hx.elim)
  obtain ⟨rfl, rfl⟩ := hq
  exact k
theorem b_oTab6 : ∀ (z : Nat → va_E) (l : List bO), l.length + 2 ≤ N0 → Ev g (d + 1) 84 [.ref l.length, .int 200, .int 6] (wB z (l ++ [.inr (8, dfA 8)])) (fun v W => v = none ∧ W = wB z (l ++ oTab 6 1200 l.length)) noX := by
  intro z l hN
  refine ev_X8_init ?_ (Nat.le_of_ble_eq_true rfl)
  have e1 : (wB z (l ++ [.inr (8, dfA 8)])).1 = l.length + 1 := List.length_append
  rw [e1, df_8]
  refine x_lo (lo' := [some (.ref l.length), some (.int 200), some (.int 6)]) rfl ?_
  refine x_al rfl rfl ?_
  refine y_obj rfl (Nat.le_of_ble_eq_true rfl) ?_
  refine x_al rfl rfl ?_
  refine x_il rfl rfl ?_
  refine x_ifle rfl (fun h => absurd h (by decide)) (fun _ => ?_)
  refine x_il rfl rfl ?_
  refine x_go rfl ?_
  refine y_put (j := 0) (xs' := [.inr (8, [.int 200, .int 0, .null, .int 0])]) (Or.inr rfl) rfl rfl (Nat.le_of_ble_eq_true rfl) rfl rfl rfl rfl ?_
  refine x_al rfl rfl ?_
  refine x_il rfl rfl ?_
  refine x_ifle rfl (fun h => absurd h (by decide)) (fun _ => ?_)
  refine x_il rfl rfl ?_
  refine x_go rfl ?_
  refine y_put (j := 0) (xs' := [.inr (8, [.int 200, .int 6, .null, .int 0])]) (Or.inr rfl) rfl rfl (Nat.le_of_ble_eq_true rfl) rfl rfl rfl rfl ?_
  refine x_al rfl rfl ?_
  refine x_al rfl rfl ?_
  refine y_get (j := 0) rfl rfl rfl rfl ?_
  refine x_al rfl rfl ?_
  refine y_get (j := 0) rfl rfl rfl rfl ?_
  refine x_mul rfl ?_
  refine y_newa (xs' := .inr (8, [.int 200, .int 6, .null, .int 0]) :: ([.inl (0, 1200, [])])) (q := l.length + 1) (n := 1200) rfl (by decide) (by decide) (by show l.length + 1 < N0; omega) (by show l.length + 1 = l.length + 1 + 0; omega) (Nat.le_of_ble_eq_true rfl) (Nat.le_of_ble_eq_true rfl) rfl rfl ?_
  refine y_put (j := 0) (xs' := oTab 6 1200 l.length) (Or.inr rfl) rfl rfl (Nat.le_of_ble_eq_true rfl) rfl rfl rfl rfl ?_
  exact x_retv rfl (Nat.le_of_ble_eq_true rfl) (Nat.le_of_ble_eq_true rfl) rfl ⟨rfl, rfl⟩
theorem b_oTab7 : ∀ (z : Nat → va_E) (l : List bO), l.length + 2 ≤ N0 → Ev g (d + 1) 84 [.ref l.length, .int 200, .int 7] (wB z (l ++ [.inr (8, dfA 8)])) (fun v W => v = none ∧ W = wB z (l ++ oTab 7 1400 l.length)) noX := by
  intro z l hN
  refine ev_X8_init ?_ (Nat.le_of_ble_eq_true rfl)
  have e1 : (wB z (l ++ [.inr (8, dfA 8)])).1 = l.length + 1 := List.length_append
  rw [e1, df_8]
  refine x_lo (lo' := [some (.ref l.length), some (.int 200), some (.int 7)]) rfl ?_
  refine x_al rfl rfl ?_
  refine y_obj rfl (Nat.le_of_ble_eq_true rfl) ?_
  refine x_al rfl rfl ?_
  refine x_il rfl rfl ?_
  refine x_ifle rfl (fun h => absurd h (by decide)) (fun _ => ?_)
  refine x_il rfl rfl ?_
  refine x_go rfl ?_
  refine y_put (j := 0) (xs' := [.inr (8, [.int 200, .int 0, .null, .int 0])]) (Or.inr rfl) rfl rfl (Nat.le_of_ble_eq_true rfl) rfl rfl rfl rfl ?_
  refine x_al rfl rfl ?_
  refine x_il rfl rfl ?_
  refine x_ifle rfl (fun h => absurd h (by decide)) (fun _ => ?_)
  refine x_il rfl rfl ?_
  refine x_go rfl ?_
  refine y_put (j := 0) (xs' := [.inr (8, [.int 200, .int 7, .null, .int 0])]) (Or.inr rfl) rfl rfl (Nat.le_of_ble_eq_true rfl) rfl rfl rfl rfl ?_
  refine x_al rfl rfl ?_
  refine x_al rfl rfl ?_
  refine y_get (j := 0) rfl rfl rfl rfl ?_
  refine x_al rfl rfl ?_
  refine y_get (j := 0) rfl rfl rfl rfl ?_
  refine x_mul rfl ?_
  refine y_newa (xs' := .inr (8, [.int 200, .int 7, .null, .int 0]) :: ([.inl (0, 1400, [])])) (q := l.length + 1) (n := 1400) rfl (by decide) (by decide) (by show l.length + 1 < N0; omega) (by show l.length + 1 = l.length + 1 + 0; omega) (Nat.le_of_ble_eq_true rfl) (Nat.le_of_ble_eq_true rfl) rfl rfl ?_
  refine y_put (j := 0) (xs' := oTab 7 1400 l.length) (Or.inr rfl) rfl rfl (Nat.le_of_ble_eq_true rfl) rfl rfl rfl rfl ?_
  exact x_retv rfl (Nat.le_of_ble_eq_true rfl) (Nat.le_of_ble_eq_true rfl) rfl ⟨rfl, rfl⟩
theorem b_oState : Ctor g (d + 3) 67 7 695 oState := by
  intro z l hN
  have h_oText := b_oText (g := g) (d := d + 1)
  have h_t6 := b_oTab6 (g := g) (d := d + 1)
  have h_t7 := b_oTab7 (g := g) (d := d + 1)
  have h_oPrint := b_oPrint (g := g) (d := d)
  have h_oMark := b_oMark (g := g) (d := d)
  have h_oCard := b_oCard (g := g) (d := d + 1)
  refine ev_X7_init ?_ (Nat.le_of_ble_eq_true rfl)
  have e1 : (wB z (l ++ [.inr (7, dfA 7)])).1 = l.length + 1 := List.length_append
  rw [e1, df_7]
  refine x_lo (lo' := [some (.ref l.length), none]) rfl ?_
  refine x_al rfl rfl ?_
  refine y_obj rfl (Nat.le_of_ble_eq_true rfl) ?_
  refine x_al rfl rfl ?_
  refine x_c rfl ?_
  refine y_put (j := 0) (xs' := [.inr (7, [.int 0, .int 1, .int 0, .int 0, .int 0, .int 0, .int 0, .int 0, .null, .null, .null, .null, .null, .null, .null])]) (Or.inl rfl) rfl rfl (Nat.le_of_ble_eq_true rfl) rfl rfl rfl rfl ?_
  refine x_al rfl rfl ?_
  refine x_c rfl ?_
  refine y_put (j := 0) (xs' := [.inr (7, [.int 0, .int 1, .int 10, .int 0, .int 0, .int 0, .int 0, .int 0, .null, .null, .null, .null, .null, .null, .null])]) (Or.inl rfl) rfl rfl (Nat.le_of_ble_eq_true rfl) rfl rfl rfl rfl ?_
  refine x_al rfl rfl ?_
  refine x_c rfl ?_
  refine y_newa (xs' := .inr (7, [.int 0, .int 1, .int 10, .int 0, .int 0, .int 0, .int 0, .int 0, .null, .null, .null, .null, .null, .null, .null]) :: ([.inl (4, 60, [])])) (q := l.length + 1) (n := 60) rfl rfl (by decide) (by show l.length + 1 < N0; omega) (by show l.length + 1 = l.length + 1 + 0; omega) (Nat.le_of_ble_eq_true rfl) (Nat.le_of_ble_eq_true rfl) rfl rfl ?_
  refine y_put (j := 0) (xs' := .inr (7, [.int 0, .int 1, .int 10, .int 0, .int 0, .int 0, .int 0, .int 0, .ref (l.length + 1), .null, .null, .null, .null, .null, .null]) :: ([.inl (4, 60, [])])) (Or.inr rfl) rfl rfl (Nat.le_of_ble_eq_true rfl) rfl rfl rfl rfl ?_
  refine x_al rfl rfl ?_
  refine x_c rfl ?_
  refine y_newa (xs' := .inr (7, [.int 0, .int 1, .int 10, .int 0, .int 0, .int 0, .int 0, .int 0, .ref (l.length + 1), .null, .null, .null, .null, .null, .null]) :: ([.inl (4, 60, [])] ++ [.inl (5, 20, [])])) (q := l.length + 2) (n := 20) rfl rfl (by decide) (by show l.length + 2 < N0; omega) (by show l.length + 2 = l.length + 1 + 1; omega) (Nat.le_of_ble_eq_true rfl) (Nat.le_of_ble_eq_true rfl) rfl rfl ?_
  refine y_put (j := 0) (xs' := .inr (7, [.int 0, .int 1, .int 10, .int 0, .int 0, .int 0, .int 0, .int 0, .ref (l.length + 1), .ref (l.length + 2), .null, .null, .null, .null, .null]) :: ([.inl (4, 60, [])] ++ [.inl (5, 20, [])])) (Or.inr rfl) rfl rfl (Nat.le_of_ble_eq_true rfl) rfl rfl rfl rfl ?_
  refine x_al rfl rfl ?_
  refine x_c rfl ?_
  refine y_newa (xs' := .inr (7, [.int 0, .int 1, .int 10, .int 0, .int 0, .int 0, .int 0, .int 0, .ref (l.length + 1), .ref (l.length + 2), .null, .null, .null, .null, .null]) :: ([.inl (4, 60, [])] ++ [.inl (5, 20, [])] ++ [.inl (6, 16, [])])) (q := l.length + 3) (n := 16) rfl rfl (by decide) (by show l.length + 3 < N0; omega) (by show l.length + 3 = l.length + 1 + 2; omega) (Nat.le_of_ble_eq_true rfl) (Nat.le_of_ble_eq_true rfl) rfl rfl ?_
  refine y_put (j := 0) (xs' := .inr (7, [.int 0, .int 1, .int 10, .int 0, .int 0, .int 0, .int 0, .int 0, .ref (l.length + 1), .ref (l.length + 2), .ref (l.length + 3), .null, .null, .null, .null]) :: ([.inl (4, 60, [])] ++ [.inl (5, 20, [])] ++ [.inl (6, 16, [])])) (Or.inr rfl) rfl rfl (Nat.le_of_ble_eq_true rfl) rfl rfl rfl rfl ?_
  refine x_al rfl rfl ?_
  refine x_c rfl ?_
  refine y_newa (xs' := .inr (7, [.int 0, .int 1, .int 10, .int 0, .int 0, .int 0, .int 0, .int 0, .ref (l.length + 1), .ref (l.length + 2), .ref (l.length + 3), .null, .null, .null, .null]) :: ([.inl (4, 60, [])] ++ [.inl (5, 20, [])] ++ [.inl (6, 16, [])] ++ [.inl (7, 10, [])])) (q := l.length + 4) (n := 10) rfl rfl (by decide) (by show l.length + 4 < N0; omega) (by show l.length + 4 = l.length + 1 + 3; omega) (Nat.le_of_ble_eq_true rfl) (Nat.le_of_ble_eq_true rfl) rfl rfl ?_
  refine y_put (j := 0) (xs' := .inr (7, [.int 0, .int 1, .int 10, .int 0, .int 0, .int 0, .int 0, .int 0, .ref (l.length + 1), .ref (l.length + 2), .ref (l.length + 3), .ref (l.length + 4), .null, .null, .null]) :: ([.inl (4, 60, [])] ++ [.inl (5, 20, [])] ++ [.inl (6, 16, [])] ++ [.inl (7, 10, [])])) (Or.inr rfl) rfl rfl (Nat.le_of_ble_eq_true rfl) rfl rfl rfl rfl ?_
  refine x_al rfl rfl ?_
  refine y_new (xs' := .inr (7, [.int 0, .int 1, .int 10, .int 0, .int 0, .int 0, .int 0, .int 0, .ref (l.length + 1), .ref (l.length + 2), .ref (l.length + 3), .ref (l.length + 4), .null, .null, .null]) :: ([.inl (4, 60, [])] ++ [.inl (5, 20, [])] ++ [.inl (6, 16, [])] ++ [.inl (7, 10, [])] ++ [.inr (5, [.int 0, .int 0, .int 0, .null, .null, .null, .null, .null])])) (q := l.length + 5) rfl (by show l.length + 5 < N0; omega) (by show l.length + 5 = l.length + 1 + 4; omega) (Nat.le_of_ble_eq_true rfl) (Nat.le_of_ble_eq_true rfl) (by rw [df_5]; rfl) rfl ?_
  refine x_dup rfl rfl ?_
  refine y_call (xs0 := .inr (7, [.int 0, .int 1, .int 10, .int 0, .int 0, .int 0, .int 0, .int 0, .ref (l.length + 1), .ref (l.length + 2), .ref (l.length + 3), .ref (l.length + 4), .null, .null, .null]) :: ([.inl (4, 60, [])] ++ [.inl (5, 20, [])] ++ [.inl (6, 16, [])] ++ [.inl (7, 10, [])])) (xs' := .inr (7, [.int 0, .int 1, .int 10, .int 0, .int 0, .int 0, .int 0, .int 0, .ref (l.length + 1), .ref (l.length + 2), .ref (l.length + 3), .ref (l.length + 4), .null, .null, .null]) :: ([.inl (4, 60, [])] ++ [.inl (5, 20, [])] ++ [.inl (6, 16, [])] ++ [.inl (7, 10, [])] ++ oText (l.length + 5))) h_oText rfl (by show l.length + 5 + 6 ≤ N0; omega) (by rw [df_5]; rfl) rfl (by show l.length + 6 = l.length + 1 + 5; omega) (Nat.le_of_ble_eq_true rfl) (Nat.le_of_ble_eq_true rfl) (Nat.le_of_ble_eq_true rfl) rfl ?_
  refine y_put (j := 0) (xs' := .inr (7, [.int 0, .int 1, .int 10, .int 0, .int 0, .int 0, .int 0, .int 0, .ref (l.length + 1), .ref (l.length + 2), .ref (l.length + 3), .ref (l.length + 4), .ref (l.length + 5), .null, .null]) :: ([.inl (4, 60, [])] ++ [.inl (5, 20, [])] ++ [.inl (6, 16, [])] ++ [.inl (7, 10, [])] ++ oText (l.length + 5))) (Or.inr rfl) rfl rfl (Nat.le_of_ble_eq_true rfl) rfl rfl rfl rfl ?_
  refine x_al rfl rfl ?_
  refine y_new (xs' := .inr (7, [.int 0, .int 1, .int 10, .int 0, .int 0, .int 0, .int 0, .int 0, .ref (l.length + 1), .ref (l.length + 2), .ref (l.length + 3), .ref (l.length + 4), .ref (l.length + 5), .null, .null]) :: ([.inl (4, 60, [])] ++ [.inl (5, 20, [])] ++ [.inl (6, 16, [])] ++ [.inl (7, 10, [])] ++ oText (l.length + 5) ++ [.inr (8, [.int 0, .int 0, .null, .int 0])])) (q := l.length + 11) rfl (by show l.length + 11 < N0; omega) (by show l.length + 11 = l.length + 1 + 10; omega) (Nat.le_of_ble_eq_true rfl) (Nat.le_of_ble_eq_true rfl) (by rw [df_8]; rfl) rfl ?_
  refine x_dup rfl rfl ?_
  refine x_c rfl ?_
  refine x_c rfl ?_
  refine y_call3 (xs0 := .inr (7, [.int 0, .int 1, .int 10, .int 0, .int 0, .int 0, .int 0, .int 0, .ref (l.length + 1), .ref (l.length + 2), .ref (l.length + 3), .ref (l.length + 4), .ref (l.length + 5), .null, .null]) :: ([.inl (4, 60, [])] ++ [.inl (5, 20, [])] ++ [.inl (6, 16, [])] ++ [.inl (7, 10, [])] ++ oText (l.length + 5))) (xs' := .inr (7, [.int 0, .int 1, .int 10, .int 0, .int 0, .int 0, .int 0, .int 0, .ref (l.length + 1), .ref (l.length + 2), .ref (l.length + 3), .ref (l.length + 4), .ref (l.length + 5), .null, .null]) :: ([.inl (4, 60, [])] ++ [.inl (5, 20, [])] ++ [.inl (6, 16, [])] ++ [.inl (7, 10, [])] ++ oText (l.length + 5) ++ oTab 6 1200 (l.length + 11))) h_t6 rfl (by show l.length + 11 + 2 ≤ N0; omega) (by rw [df_8]; rfl) rfl (by show l.length + 12 = l.length + 1 + 11; omega) (Nat.le_of_ble_eq_true rfl) (Nat.le_of_ble_eq_true rfl) (Nat.le_of_ble_eq_true rfl) rfl ?_
  refine y_put (j := 0) (xs' := .inr (7, [.int 0, .int 1, .int 10, .int 0, .int 0, .int 0, .int 0, .int 0, .ref (l.length + 1), .ref (l.length + 2), .ref (l.length + 3), .ref (l.length + 4), .ref (l.length + 5), .ref (l.length + 11), .null]) :: ([.inl (4, 60, [])] ++ [.inl (5, 20, [])] ++ [.inl (6, 16, [])] ++ [.inl (7, 10, [])] ++ oText (l.length + 5) ++ oTab 6 1200 (l.length + 11))) (Or.inr rfl) rfl rfl (Nat.le_of_ble_eq_true rfl) rfl rfl rfl rfl ?_
  refine x_al rfl rfl ?_
  refine y_new (xs' := .inr (7, [.int 0, .int 1, .int 10, .int 0, .int 0, .int 0, .int 0, .int 0, .ref (l.length + 1), .ref (l.length + 2), .ref (l.length + 3), .ref (l.length + 4), .ref (l.length + 5), .ref (l.length + 11), .null]) :: ([.inl (4, 60, [])] ++ [.inl (5, 20, [])] ++ [.inl (6, 16, [])] ++ [.inl (7, 10, [])] ++ oText (l.length + 5) ++ oTab 6 1200 (l.length + 11) ++ [.inr (8, [.int 0, .int 0, .null, .int 0])])) (q := l.length + 13) rfl (by show l.length + 13 < N0; omega) (by show l.length + 13 = l.length + 1 + 12; omega) (Nat.le_of_ble_eq_true rfl) (Nat.le_of_ble_eq_true rfl) (by rw [df_8]; rfl) rfl ?_
  refine x_dup rfl rfl ?_
  refine x_c rfl ?_
  refine x_c rfl ?_
  refine y_call3 (xs0 := .inr (7, [.int 0, .int 1, .int 10, .int 0, .int 0, .int 0, .int 0, .int 0, .ref (l.length + 1), .ref (l.length + 2), .ref (l.length + 3), .ref (l.length + 4), .ref (l.length + 5), .ref (l.length + 11), .null]) :: ([.inl (4, 60, [])] ++ [.inl (5, 20, [])] ++ [.inl (6, 16, [])] ++ [.inl (7, 10, [])] ++ oText (l.length + 5) ++ oTab 6 1200 (l.length + 11))) (xs' := .inr (7, [.int 0, .int 1, .int 10, .int 0, .int 0, .int 0, .int 0, .int 0, .ref (l.length + 1), .ref (l.length + 2), .ref (l.length + 3), .ref (l.length + 4), .ref (l.length + 5), .ref (l.length + 11), .null]) :: ([.inl (4, 60, [])] ++ [.inl (5, 20, [])] ++ [.inl (6, 16, [])] ++ [.inl (7, 10, [])] ++ oText (l.length + 5) ++ oTab 6 1200 (l.length + 11) ++ oTab 7 1400 (l.length + 13))) h_t7 rfl (by show l.length + 13 + 2 ≤ N0; omega) (by rw [df_8]; rfl) rfl (by show l.length + 14 = l.length + 1 + 13; omega) (Nat.le_of_ble_eq_true rfl) (Nat.le_of_ble_eq_true rfl) (Nat.le_of_ble_eq_true rfl) rfl ?_
  refine y_put (j := 0) (xs' := .inr (7, [.int 0, .int 1, .int 10, .int 0, .int 0, .int 0, .int 0, .int 0, .ref (l.length + 1), .ref (l.length + 2), .ref (l.length + 3), .ref (l.length + 4), .ref (l.length + 5), .ref (l.length + 11), .ref (l.length + 13)]) :: ([.inl (4, 60, [])] ++ [.inl (5, 20, [])] ++ [.inl (6, 16, [])] ++ [.inl (7, 10, [])] ++ oText (l.length + 5) ++ oTab 6 1200 (l.length + 11) ++ oTab 7 1400 (l.length + 13))) (Or.inr rfl) rfl rfl (Nat.le_of_ble_eq_true rfl) rfl rfl rfl rfl ?_
  refine y_w (xs' := hdS l.length [] [] [] []) rfl ?_
  refine x_c rfl ?_
  refine x_is (lo' := [some (.ref l.length), some (.int (nI 0))]) rfl (Nat.le_of_ble_eq_true rfl) rfl ?_
  refine y_w (List.append_nil _).symm ?_
  refine y_loop (X := fun r => hdS l.length r [] [] []) (P := oPrint) (fs := stF l.length) (p := 45) (e := 57) (n := 60) (b := 8) (j := 1) (ci := 4) (mid := 29) (s := 7) (t := 4) (cX := 15) (u0 := 14) (v0 := 3370) (nf := 5) (mu := 105) (fun _ _ h => segI (n := 12) (by decide +kernel) h) h_oPrint (fun _ _ => rfl) (fun _ _ => rfl) (fun _ _ _ => rfl) rfl (fun _ => rfl) (fun _ => rfl) (fun _ => ⟨_, rfl⟩) (by decide) rfl rfl (by decide) (by omega) (by omega) rfl rfl (by decide) (Nat.le_of_ble_eq_true rfl) (Nat.le_of_ble_eq_true rfl) ?_ 60 0 rfl
  refine x_c rfl ?_
  refine x_is (lo' := [some (.ref l.length), some (.int (nI 0))]) rfl (Nat.le_of_ble_eq_true rfl) rfl ?_
  refine y_w (List.append_nil _).symm ?_
  refine y_loop (X := fun r => hdS l.length (rs (l.length + 15) 7 60) r [] [] ++ blk oPrint (l.length + 15) 7 60) (P := oMark) (fs := stF l.length) (p := 59) (e := 71) (n := 20) (b := 9) (j := 2) (ci := 3) (mid := 27) (s := 6) (t := 5) (cX := 435) (u0 := 434) (v0 := 9970) (nf := 3) (mu := 41) (fun _ _ h => segI (n := 12) (by decide +kernel) h) h_oMark (fun _ _ => rfl) (fun _ _ => rfl) (fun _ _ _ => rfl) rfl (fun _ => by rw [List.length_append, blk_len (P := oPrint) (s := 7) (fun _ => rfl)]; show 15 + 7 * 60 = 435; rfl) (fun _ => rfl) (fun _ => ⟨_, rfl⟩) (by decide) rfl rfl (by decide) (by omega) (by omega) rfl rfl (by decide) (Nat.le_of_ble_eq_true rfl) (Nat.le_of_ble_eq_true rfl) ?_ 20 0 rfl
  refine x_c rfl ?_
  refine x_is (lo' := [some (.ref l.length), some (.int (nI 0))]) rfl (Nat.le_of_ble_eq_true rfl) rfl ?_
  refine y_w (List.append_nil _).symm ?_
  refine y_loop (X := fun r => hdS l.length (rs (l.length + 15) 7 60) (rs (l.length + 435) 6 20) r [] ++ blk oPrint (l.length + 15) 7 60 ++ blk oMark (l.length + 435) 6 20) (P := oCard) (fs := stF l.length) (p := 73) (e := 85) (n := 16) (b := 10) (j := 3) (ci := 0) (mid := 0) (s := 5) (t := 6) (cX := 555) (u0 := 554) (v0 := 10850) (nf := 7) (mu := 33) (fun _ _ h => segI (n := 12) (by decide +kernel) h) h_oCard (fun _ _ => rfl) (fun _ _ => rfl) (fun _ _ _ => rfl) rfl (fun _ => by rw [List.length_append, List.length_append, blk_len (P := oPrint) (s := 7) (fun _ => rfl), blk_len (P := oMark) (s := 6) (fun _ => rfl)]; show 15 + 7 * 60 + 6 * 20 = 555; rfl) (fun _ => rfl) (fun _ => ⟨_, rfl⟩) (by decide) rfl rfl (by decide) (by omega) (by omega) rfl rfl (by decide) (Nat.le_of_ble_eq_true rfl) (Nat.le_of_ble_eq_true rfl) ?_ 16 0 rfl
  refine x_c rfl ?_
  refine x_is (lo' := [some (.ref l.length), some (.int (nI 0))]) rfl (Nat.le_of_ble_eq_true rfl) rfl ?_
  refine y_w (List.append_nil _).symm ?_
  refine y_loop (X := fun r => hdS l.length (rs (l.length + 15) 7 60) (rs (l.length + 435) 6 20) (rs (l.length + 555) 5 16) r ++ blk oPrint (l.length + 15) 7 60 ++ blk oMark (l.length + 435) 6 20 ++ blk oCard (l.length + 555) 5 16) (P := oText) (fs := stF l.length) (p := 87) (e := 99) (n := 10) (b := 11) (j := 4) (ci := 5) (mid := 42) (s := 6) (t := 7) (cX := 635) (u0 := 634) (v0 := 11490) (nf := 8) (mu := 448) (fun _ _ h => segI (n := 12) (by decide +kernel) h) h_oText (fun _ _ => rfl) (fun _ _ => rfl) (fun _ _ _ => rfl) rfl (fun _ => by rw [List.length_append, List.length_append, List.length_append, blk_len (P := oPrint) (s := 7) (fun _ => rfl), blk_len (P := oMark) (s := 6) (fun _ => rfl), blk_len (P := oCard) (s := 5) (fun _ => rfl)]; show 15 + 7 * 60 + 6 * 20 + 5 * 16 = 635; rfl) (fun _ => rfl) (fun _ => ⟨_, rfl⟩) (by decide) rfl rfl (by decide) (by omega) (by omega) rfl rfl (by decide) (Nat.le_of_ble_eq_true rfl) (Nat.le_of_ble_eq_true rfl) ?_ 10 0 rfl
  exact x_retv rfl (Nat.le_of_ble_eq_true rfl) (Nat.le_of_ble_eq_true rfl) rfl ⟨rfl, rfl⟩
end CT
