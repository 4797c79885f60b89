/-! the constructors without loops -/
theorem df_0 : dfA 0 = [.int 0, .int 0, .int 0, .null, .null, .null, .null] := by decide +kernel
theorem df_1 : dfA 1 = [.null, .int 0] := by decide +kernel
theorem df_2 : dfA 2 = [.int 0, .int 0, .int 0, .int 0, .int 0, .int 0, .null, .null, .null, .int 0, .null, .int 0] := by decide +kernel
theorem df_3 : dfA 3 = [.null, .int 0, .int 0] := by decide +kernel
theorem df_4 : dfA 4 = [.null, .null, .int 0, .int 0, .int 0] := by decide +kernel
theorem df_5 : dfA 5 = [.int 0, .int 0, .int 0, .null, .null, .null, .null, .null] := by decide +kernel
theorem df_6 : dfA 6 = [.null, .null, .null, .null, .int 0, .int 0, .int 0, .int 0, .int 0] := by decide +kernel
theorem df_7 : dfA 7 = [.int 0, .int 0, .int 0, .int 0, .int 0, .int 0, .int 0, .int 0, .null, .null, .null, .null, .null, .null, .null] := by decide +kernel
theorem df_8 : dfA 8 = [.int 0, .int 0, .null, .int 0] := by decide +kernel
theorem df_9 : dfA 9 = [.null, .int 0, .int 0, .null, .null, .null, .int 0, .int 0] := by decide +kernel
theorem df_10 : dfA 10 = [.null, .null, .null, .int 0, .null, .null, .null, .null, .null, .null, .null, .null] := by decide +kernel
def oSheet (q : Nat) : List bO := .inr (6, [.ref (q + 1), .ref (q + 2), .ref (q + 3), .ref (q + 4), .int 0, .int 0, .int 0, .int 63, .int 63]) :: ([.inl (0, 8, [])] ++ [.inl (0, 8, [])] ++ [.inl (0, 8, [])] ++ [.inl (0, 8, [])])
def oPrint (q : Nat) : List bO := .inr (4, [.ref (q + 1), .ref (q + 2), .int 0, .int 0, .int 0]) :: ([.inl (0, 64, [])] ++ oSheet (q + 2))
def oMark (q : Nat) : List bO := .inr (3, [.ref (q + 1), .int 0, .int 0]) :: (oSheet (q + 1))
def oCard (q : Nat) : List bO := .inr (0, [.int 0, .int 0, .int 0, .ref (q + 1), .ref (q + 2), .ref (q + 3), .ref (q + 4)]) :: ([.inl (0, 10, [])] ++ [.inl (0, 10, [])] ++ [.inl (0, 10, [])] ++ [.inl (0, 3, [])])
def oText (q : Nat) : List bO := .inr (5, [.int 0, .int 0, .int 0, .ref (q + 1), .ref (q + 2), .ref (q + 3), .ref (q + 4), .ref (q + 5)]) :: ([.inl (0, 12, [])] ++ [.inl (0, 12, [])] ++ [.inl (0, 12, [])] ++ [.inl (0, 12, [])] ++ [.inl (0, 400, [])])
def oNums (q : Nat) : List bO := .inr (1, [.ref (q + 1), .int 0]) :: ([.inl (1, 5, [])])
def oTape (q : Nat) : List bO := .inr (9, [.ref (q + 1), .int 0, .int (-1), .ref (q + 2), .ref (q + 3), .ref (q + 4), .int 0, .int 0]) :: ([.inl (0, 400, [])] ++ [.inl (0, 400, [])] ++ [.inl (0, 400, [])] ++ [.inl (0, 400, [])])
def oLays (q : Nat) : List bO := .inr (2, [.int 0, .int 0, .int 0, .int 0, .int 0, .int 0, .ref (q + 1), .ref (q + 6), .ref (q + 7), .int 0, .ref (q + 8), .int 1]) :: (oSheet (q + 1) ++ [.inl (0, 8, [])] ++ [.inl (0, 8, [])] ++ [.inl (0, 28800, [])])
section CT
variable {g : aG} {d : Nat}
theorem b_oSheet : Ctor g (d + 1) 59 6 5 oSheet := by
  intro z l hN
  refine ev_X6_init ?_ (Nat.le_of_ble_eq_true rfl)
  have e1 : (wB z (l ++ [.inr (6, dfA 6)])).1 = l.length + 1 := List.length_append
  rw [e1, df_6]
  refine x_lo (lo' := [some (.ref l.length)]) rfl ?_
  refine x_al rfl rfl ?_
  refine y_obj rfl (Nat.le_of_ble_eq_true rfl) ?_
  refine x_al rfl rfl ?_
  refine x_c rfl ?_
  refine y_newa (xs' := .inr (6, [.null, .null, .null, .null, .int 0, .int 0, .int 0, .int 0, .int 0]) :: ([.inl (0, 8, [])])) (q := l.length + 1) (n := 8) rfl rfl (by decide) (by show l.length + 1 < N0; omega) (by show l.length + 1 = l.length + 1 + 0; omega) (Nat.le_of_ble_eq_true rfl) (Nat.le_of_ble_eq_true rfl) rfl rfl ?_
  refine y_put (j := 0) (xs' := .inr (6, [.ref (l.length + 1), .null, .null, .null, .int 0, .int 0, .int 0, .int 0, .int 0]) :: ([.inl (0, 8, [])])) (Or.inr rfl) rfl rfl (Nat.le_of_ble_eq_true rfl) rfl rfl rfl rfl ?_
  refine x_al rfl rfl ?_
  refine x_c rfl ?_
  refine y_newa (xs' := .inr (6, [.ref (l.length + 1), .null, .null, .null, .int 0, .int 0, .int 0, .int 0, .int 0]) :: ([.inl (0, 8, [])] ++ [.inl (0, 8, [])])) (q := l.length + 2) (n := 8) rfl rfl (by decide) (by show l.length + 2 < N0; omega) (by show l.length + 2 = l.length + 1 + 1; omega) (Nat.le_of_ble_eq_true rfl) (Nat.le_of_ble_eq_true rfl) rfl rfl ?_
  refine y_put (j := 0) (xs' := .inr (6, [.ref (l.length + 1), .ref (l.length + 2), .null, .null, .int 0, .int 0, .int 0, .int 0, .int 0]) :: ([.inl (0, 8, [])] ++ [.inl (0, 8, [])])) (Or.inr rfl) rfl rfl (Nat.le_of_ble_eq_true rfl) rfl rfl rfl rfl ?_
  refine x_al rfl rfl ?_
  refine x_c rfl ?_
  refine y_newa (xs' := .inr (6, [.ref (l.length + 1), .ref (l.length + 2), .null, .null, .int 0, .int 0, .int 0, .int 0, .int 0]) :: ([.inl (0, 8, [])] ++ [.inl (0, 8, [])] ++ [.inl (0, 8, [])])) (q := l.length + 3) (n := 8) rfl rfl (by decide) (by show l.length + 3 < N0; omega) (by show l.length + 3 = l.length + 1 + 2; omega) (Nat.le_of_ble_eq_true rfl) (Nat.le_of_ble_eq_true rfl) rfl rfl ?_
  refine y_put (j := 0) (xs' := .inr (6, [.ref (l.length + 1), .ref (l.length + 2), .ref (l.length + 3), .null, .int 0, .int 0, .int 0, .int 0, .int 0]) :: ([.inl (0, 8, [])] ++ [.inl (0, 8, [])] ++ [.inl (0, 8, [])])) (Or.inr rfl) rfl rfl (Nat.le_of_ble_eq_true rfl) rfl rfl rfl rfl ?_
  refine x_al rfl rfl ?_
  refine x_c rfl ?_
  refine y_newa (xs' := .inr (6, [.ref (l.length + 1), .ref (l.length + 2), .ref (l.length + 3), .null, .int 0, .int 0, .int 0, .int 0, .int 0]) :: ([.inl (0, 8, [])] ++ [.inl (0, 8, [])] ++ [.inl (0, 8, [])] ++ [.inl (0, 8, [])])) (q := l.length + 4) (n := 8) rfl rfl (by decide) (by show l.length + 4 < N0; omega) (by show l.length + 4 = l.length + 1 + 3; omega) (Nat.le_of_ble_eq_true rfl) (Nat.le_of_ble_eq_true rfl) rfl rfl ?_
  refine y_put (j := 0) (xs' := .inr (6, [.ref (l.length + 1), .ref (l.length + 2), .ref (l.length + 3), .ref (l.length + 4), .int 0, .int 0, .int 0, .int 0, .int 0]) :: ([.inl (0, 8, [])] ++ [.inl (0, 8, [])] ++ [.inl (0, 8, [])] ++ [.inl (0, 8, [])])) (Or.inr rfl) rfl rfl (Nat.le_of_ble_eq_true rfl) rfl rfl rfl rfl ?_
  refine x_al rfl rfl ?_
  refine x_c rfl ?_
  refine y_put (j := 0) (xs' := .inr (6, [.ref (l.length + 1), .ref (l.length + 2), .ref (l.length + 3), .ref (l.length + 4), .int 0, .int 0, .int 0, .int 63, .int 0]) :: ([.inl (0, 8, [])] ++ [.inl (0, 8, [])] ++ [.inl (0, 8, [])] ++ [.inl (0, 8, [])])) (Or.inl rfl) rfl rfl (Nat.le_of_ble_eq_true rfl) rfl rfl rfl rfl ?_
  refine x_al rfl rfl ?_
  refine x_c rfl ?_
  refine y_put (j := 0) (xs' := .inr (6, [.ref (l.length + 1), .ref (l.length + 2), .ref (l.length + 3), .ref (l.length + 4), .int 0, .int 0, .int 0, .int 63, .int 63]) :: ([.inl (0, 8, [])] ++ [.inl (0, 8, [])] ++ [.inl (0, 8, [])] ++ [.inl (0, 8, [])])) (Or.inl rfl) rfl rfl (Nat.le_of_ble_eq_true rfl) rfl rfl rfl rfl ?_
  exact x_retv rfl (Nat.le_of_ble_eq_true rfl) (Nat.le_of_ble_eq_true rfl) rfl ⟨rfl, rfl⟩
theorem b_oPrint : Ctor g (d + 2) 29 4 7 oPrint := by
  intro z l hN
  have h_oSheet := b_oSheet (g := g) (d := d)
  refine ev_X4_init ?_ (Nat.le_of_ble_eq_true rfl)
  have e1 : (wB z (l ++ [.inr (4, dfA 4)])).1 = l.length + 1 := List.length_append
  rw [e1, df_4]
  refine x_lo (lo' := [some (.ref l.length)]) rfl ?_
  refine x_al rfl rfl ?_
  refine y_obj rfl (Nat.le_of_ble_eq_true rfl) ?_
  refine x_al rfl rfl ?_
  refine x_c rfl ?_
  refine y_newa (xs' := .inr (4, [.null, .null, .int 0, .int 0, .int 0]) :: ([.inl (0, 64, [])])) (q := l.length + 1) (n := 64) rfl rfl (by decide) (by show l.length + 1 < N0; omega) (by show l.length + 1 = l.length + 1 + 0; omega) (Nat.le_of_ble_eq_true rfl) (Nat.le_of_ble_eq_true rfl) rfl rfl ?_
  refine y_put (j := 0) (xs' := .inr (4, [.ref (l.length + 1), .null, .int 0, .int 0, .int 0]) :: ([.inl (0, 64, [])])) (Or.inr rfl) rfl rfl (Nat.le_of_ble_eq_true rfl) rfl rfl rfl rfl ?_
  refine x_al rfl rfl ?_
  refine y_new (xs' := .inr (4, [.ref (l.length + 1), .null, .int 0, .int 0, .int 0]) :: ([.inl (0, 64, [])] ++ [.inr (6, [.null, .null, .null, .null, .int 0, .int 0, .int 0, .int 0, .int 0])])) (q := l.length + 2) rfl (by show l.length + 2 < N0; omega) (by show l.length + 2 = l.length + 1 + 1; omega) (Nat.le_of_ble_eq_true rfl) (Nat.le_of_ble_eq_true rfl) (by rw [df_6]; rfl) rfl ?_
  refine x_dup rfl rfl ?_
  refine y_call (xs0 := .inr (4, [.ref (l.length + 1), .null, .int 0, .int 0, .int 0]) :: ([.inl (0, 64, [])])) (xs' := .inr (4, [.ref (l.length + 1), .null, .int 0, .int 0, .int 0]) :: ([.inl (0, 64, [])] ++ oSheet (l.length + 2))) h_oSheet rfl (by show l.length + 2 + 5 ≤ N0; omega) (by rw [df_6]; rfl) rfl (by show l.length + 3 = l.length + 1 + 2; omega) (Nat.le_of_ble_eq_true rfl) (Nat.le_of_ble_eq_true rfl) (Nat.le_of_ble_eq_true rfl) rfl ?_
  refine y_put (j := 0) (xs' := .inr (4, [.ref (l.length + 1), .ref (l.length + 2), .int 0, .int 0, .int 0]) :: ([.inl (0, 64, [])] ++ oSheet (l.length + 2))) (Or.inr rfl) rfl rfl (Nat.le_of_ble_eq_true rfl) rfl rfl rfl rfl ?_
  exact x_retv rfl (Nat.le_of_ble_eq_true rfl) (Nat.le_of_ble_eq_true rfl) rfl ⟨rfl, rfl⟩
theorem b_oMark : Ctor g (d + 2) 27 3 6 oMark := by
  intro z l hN
  have h_oSheet := b_oSheet (g := g) (d := d)
  refine ev_X3_init ?_ (Nat.le_of_ble_eq_true rfl)
  have e1 : (wB z (l ++ [.inr (3, dfA 3)])).1 = l.length + 1 := List.length_append
  rw [e1, df_3]
  refine x_lo (lo' := [some (.ref l.length)]) rfl ?_
  refine x_al rfl rfl ?_
  refine y_obj rfl (Nat.le_of_ble_eq_true rfl) ?_
  refine x_al rfl rfl ?_
  refine y_new (xs' := .inr (3, [.null, .int 0, .int 0]) :: ([.inr (6, [.null, .null, .null, .null, .int 0, .int 0, .int 0, .int 0, .int 0])])) (q := l.length + 1) rfl (by show l.length + 1 < N0; omega) (by show l.length + 1 = l.length + 1 + 0; omega) (Nat.le_of_ble_eq_true rfl) (Nat.le_of_ble_eq_true rfl) (by rw [df_6]; rfl) rfl ?_
  refine x_dup rfl rfl ?_
  refine y_call (xs0 := [.inr (3, [.null, .int 0, .int 0])]) (xs' := .inr (3, [.null, .int 0, .int 0]) :: (oSheet (l.length + 1))) h_oSheet rfl (by show l.length + 1 + 5 ≤ N0; omega) (by rw [df_6]; rfl) rfl (by show l.length + 2 = l.length + 1 + 1; omega) (Nat.le_of_ble_eq_true rfl) (Nat.le_of_ble_eq_true rfl) (Nat.le_of_ble_eq_true rfl) rfl ?_
  refine y_put (j := 0) (xs' := .inr (3, [.ref (l.length + 1), .int 0, .int 0]) :: (oSheet (l.length + 1))) (Or.inr rfl) rfl rfl (Nat.le_of_ble_eq_true rfl) rfl rfl rfl rfl ?_
  exact x_retv rfl (Nat.le_of_ble_eq_true rfl) (Nat.le_of_ble_eq_true rfl) rfl ⟨rfl, rfl⟩
theorem b_oCard : Ctor g (d + 1) 0 0 5 oCard := by
  intro z l hN
  refine ev_X0_init ?_ (Nat.le_of_ble_eq_true rfl)
  have e1 : (wB z (l ++ [.inr (0, dfA 0)])).1 = l.length + 1 := List.length_append
  rw [e1, df_0]
  refine x_lo (lo' := [some (.ref l.length)]) rfl ?_
  refine x_al rfl rfl ?_
  refine y_obj rfl (Nat.le_of_ble_eq_true rfl) ?_
  refine x_al rfl rfl ?_
  refine x_c rfl ?_
  refine y_newa (xs' := .inr (0, [.int 0, .int 0, .int 0, .null, .null, .null, .null]) :: ([.inl (0, 10, [])])) (q := l.length + 1) (n := 10) rfl rfl (by decide) (by show l.length + 1 < N0; omega) (by show l.length + 1 = l.length + 1 + 0; omega) (Nat.le_of_ble_eq_true rfl) (Nat.le_of_ble_eq_true rfl) rfl rfl ?_
  refine y_put (j := 0) (xs' := .inr (0, [.int 0, .int 0, .int 0, .ref (l.length + 1), .null, .null, .null]) :: ([.inl (0, 10, [])])) (Or.inr rfl) rfl rfl (Nat.le_of_ble_eq_true rfl) rfl rfl rfl rfl ?_
  refine x_al rfl rfl ?_
  refine x_c rfl ?_
  refine y_newa (xs' := .inr (0, [.int 0, .int 0, .int 0, .ref (l.length + 1), .null, .null, .null]) :: ([.inl (0, 10, [])] ++ [.inl (0, 10, [])])) (q := l.length + 2) (n := 10) rfl rfl (by decide) (by show l.length + 2 < N0; omega) (by show l.length + 2 = l.length + 1 + 1; omega) (Nat.le_of_ble_eq_true rfl) (Nat.le_of_ble_eq_true rfl) rfl rfl ?_
  refine y_put (j := 0) (xs' := .inr (0, [.int 0, .int 0, .int 0, .ref (l.length + 1), .ref (l.length + 2), .null, .null]) :: ([.inl (0, 10, [])] ++ [.inl (0, 10, [])])) (Or.inr rfl) rfl rfl (Nat.le_of_ble_eq_true rfl) rfl rfl rfl rfl ?_
  refine x_al rfl rfl ?_
  refine x_c rfl ?_
  refine y_newa (xs' := .inr (0, [.int 0, .int 0, .int 0, .ref (l.length + 1), .ref (l.length + 2), .null, .null]) :: ([.inl (0, 10, [])] ++ [.inl (0, 10, [])] ++ [.inl (0, 10, [])])) (q := l.length + 3) (n := 10) rfl rfl (by decide) (by show l.length + 3 < N0; omega) (by show l.length + 3 = l.length + 1 + 2; omega) (Nat.le_of_ble_eq_true rfl) (Nat.le_of_ble_eq_true rfl) rfl rfl ?_
  refine y_put (j := 0) (xs' := .inr (0, [.int 0, .int 0, .int 0, .ref (l.length + 1), .ref (l.length + 2), .ref (l.length + 3), .null]) :: ([.inl (0, 10, [])] ++ [.inl (0, 10, [])] ++ [.inl (0, 10, [])])) (Or.inr rfl) rfl rfl (Nat.le_of_ble_eq_true rfl) rfl rfl rfl rfl ?_
  refine x_al rfl rfl ?_
  refine x_c rfl ?_
  refine y_newa (xs' := .inr (0, [.int 0, .int 0, .int 0, .ref (l.length + 1), .ref (l.length + 2), .ref (l.length + 3), .null]) :: ([.inl (0, 10, [])] ++ [.inl (0, 10, [])] ++ [.inl (0, 10, [])] ++ [.inl (0, 3, [])])) (q := l.length + 4) (n := 3) rfl rfl (by decide) (by show l.length + 4 < N0; omega) (by show l.length + 4 = l.length + 1 + 3; omega) (Nat.le_of_ble_eq_true rfl) (Nat.le_of_ble_eq_true rfl) rfl rfl ?_
  refine y_put (j := 0) (xs' := .inr (0, [.int 0, .int 0, .int 0, .ref (l.length + 1), .ref (l.length + 2), .ref (l.length + 3), .ref (l.length + 4)]) :: ([.inl (0, 10, [])] ++ [.inl (0, 10, [])] ++ [.inl (0, 10, [])] ++ [.inl (0, 3, [])])) (Or.inr rfl) rfl rfl (Nat.le_of_ble_eq_true rfl) rfl rfl rfl rfl ?_
  exact x_retv rfl (Nat.le_of_ble_eq_true rfl) (Nat.le_of_ble_eq_true rfl) rfl ⟨rfl, rfl⟩
theorem b_oText : Ctor g (d + 1) 42 5 6 oText := by
  intro z l hN
  refine ev_X5_init ?_ (Nat.le_of_ble_eq_true rfl)
  have e1 : (wB z (l ++ [.inr (5, dfA 5)])).1 = l.length + 1 := List.length_append
  rw [e1, df_5]
  refine x_lo (lo' := [some (.ref l.length)]) rfl ?_
  refine x_al rfl rfl ?_
  refine y_obj rfl (Nat.le_of_ble_eq_true rfl) ?_
  refine x_al rfl rfl ?_
  refine x_c rfl ?_
  refine y_newa (xs' := .inr (5, [.int 0, .int 0, .int 0, .null, .null, .null, .null, .null]) :: ([.inl (0, 12, [])])) (q := l.length + 1) (n := 12) rfl rfl (by decide) (by show l.length + 1 < N0; omega) (by show l.length + 1 = l.length + 1 + 0; omega) (Nat.le_of_ble_eq_true rfl) (Nat.le_of_ble_eq_true rfl) rfl rfl ?_
  refine y_put (j := 0) (xs' := .inr (5, [.int 0, .int 0, .int 0, .ref (l.length + 1), .null, .null, .null, .null]) :: ([.inl (0, 12, [])])) (Or.inr rfl) rfl rfl (Nat.le_of_ble_eq_true rfl) rfl rfl rfl rfl ?_
  refine x_al rfl rfl ?_
  refine x_c rfl ?_
  refine y_newa (xs' := .inr (5, [.int 0, .int 0, .int 0, .ref (l.length + 1), .null, .null, .null, .null]) :: ([.inl (0, 12, [])] ++ [.inl (0, 12, [])])) (q := l.length + 2) (n := 12) rfl rfl (by decide) (by show l.length + 2 < N0; omega) (by show l.length + 2 = l.length + 1 + 1; omega) (Nat.le_of_ble_eq_true rfl) (Nat.le_of_ble_eq_true rfl) rfl rfl ?_
  refine y_put (j := 0) (xs' := .inr (5, [.int 0, .int 0, .int 0, .ref (l.length + 1), .ref (l.length + 2), .null, .null, .null]) :: ([.inl (0, 12, [])] ++ [.inl (0, 12, [])])) (Or.inr rfl) rfl rfl (Nat.le_of_ble_eq_true rfl) rfl rfl rfl rfl ?_
  refine x_al rfl rfl ?_
  refine x_c rfl ?_
  refine y_newa (xs' := .inr (5, [.int 0, .int 0, .int 0, .ref (l.length + 1), .ref (l.length + 2), .null, .null, .null]) :: ([.inl (0, 12, [])] ++ [.inl (0, 12, [])] ++ [.inl (0, 12, [])])) (q := l.length + 3) (n := 12) rfl rfl (by decide) (by show l.length + 3 < N0; omega) (by show l.length + 3 = l.length + 1 + 2; omega) (Nat.le_of_ble_eq_true rfl) (Nat.le_of_ble_eq_true rfl) rfl rfl ?_
  refine y_put (j := 0) (xs' := .inr (5, [.int 0, .int 0, .int 0, .ref (l.length + 1), .ref (l.length + 2), .ref (l.length + 3), .null, .null]) :: ([.inl (0, 12, [])] ++ [.inl (0, 12, [])] ++ [.inl (0, 12, [])])) (Or.inr rfl) rfl rfl (Nat.le_of_ble_eq_true rfl) rfl rfl rfl rfl ?_
  refine x_al rfl rfl ?_
  refine x_c rfl ?_
  refine y_newa (xs' := .inr (5, [.int 0, .int 0, .int 0, .ref (l.length + 1), .ref (l.length + 2), .ref (l.length + 3), .null, .null]) :: ([.inl (0, 12, [])] ++ [.inl (0, 12, [])] ++ [.inl (0, 12, [])] ++ [.inl (0, 12, [])])) (q := l.length + 4) (n := 12) rfl rfl (by decide) (by show l.length + 4 < N0; omega) (by show l.length + 4 = l.length + 1 + 3; omega) (Nat.le_of_ble_eq_true rfl) (Nat.le_of_ble_eq_true rfl) rfl rfl ?_
  refine y_put (j := 0) (xs' := .inr (5, [.int 0, .int 0, .int 0, .ref (l.length + 1), .ref (l.length + 2), .ref (l.length + 3), .ref (l.length + 4), .null]) :: ([.inl (0, 12, [])] ++ [.inl (0, 12, [])] ++ [.inl (0, 12, [])] ++ [.inl (0, 12, [])])) (Or.inr rfl) rfl rfl (Nat.le_of_ble_eq_true rfl) rfl rfl rfl rfl ?_
  refine x_al rfl rfl ?_
  refine x_c rfl ?_
  refine y_newa (xs' := .inr (5, [.int 0, .int 0, .int 0, .ref (l.length + 1), .ref (l.length + 2), .ref (l.length + 3), .ref (l.length + 4), .null]) :: ([.inl (0, 12, [])] ++ [.inl (0, 12, [])] ++ [.inl (0, 12, [])] ++ [.inl (0, 12, [])] ++ [.inl (0, 400, [])])) (q := l.length + 5) (n := 400) rfl rfl (by decide) (by show l.length + 5 < N0; omega) (by show l.length + 5 = l.length + 1 + 4; omega) (Nat.le_of_ble_eq_true rfl) (Nat.le_of_ble_eq_true rfl) rfl rfl ?_
  refine y_put (j := 0) (xs' := .inr (5, [.int 0, .int 0, .int 0, .ref (l.length + 1), .ref (l.length + 2), .ref (l.length + 3), .ref (l.length + 4), .ref (l.length + 5)]) :: ([.inl (0, 12, [])] ++ [.inl (0, 12, [])] ++ [.inl (0, 12, [])] ++ [.inl (0, 12, [])] ++ [.inl (0, 400, [])])) (Or.inr rfl) rfl rfl (Nat.le_of_ble_eq_true rfl) rfl rfl rfl rfl ?_
  exact x_retv rfl (Nat.le_of_ble_eq_true rfl) (Nat.le_of_ble_eq_true rfl) rfl ⟨rfl, rfl⟩
theorem b_oNums : Ctor g (d + 1) 8 1 2 oNums := by
  intro z l hN
  refine ev_X1_init ?_ (Nat.le_of_ble_eq_true rfl)
  have e1 : (wB z (l ++ [.inr (1, dfA 1)])).1 = l.length + 1 := List.length_append
  rw [e1, df_1]
  refine x_lo (lo' := [some (.ref l.length)]) rfl ?_
  refine x_al rfl rfl ?_
  refine y_obj rfl (Nat.le_of_ble_eq_true rfl) ?_
  refine x_al rfl rfl ?_
  refine x_c rfl ?_
  refine y_newa (xs' := .inr (1, [.null, .int 0]) :: ([.inl (1, 5, [])])) (q := l.length + 1) (n := 5) rfl rfl (by decide) (by show l.length + 1 < N0; omega) (by show l.length + 1 = l.length + 1 + 0; omega) (Nat.le_of_ble_eq_true rfl) (Nat.le_of_ble_eq_true rfl) rfl rfl ?_
  refine y_put (j := 0) (xs' := .inr (1, [.ref (l.length + 1), .int 0]) :: ([.inl (1, 5, [])])) (Or.inr rfl) rfl rfl (Nat.le_of_ble_eq_true rfl) rfl rfl rfl rfl ?_
  exact x_retv rfl (Nat.le_of_ble_eq_true rfl) (Nat.le_of_ble_eq_true rfl) rfl ⟨rfl, rfl⟩
theorem b_oTape : Ctor g (d + 1) 92 9 5 oTape := by
  intro z l hN
  refine ev_X9_init ?_ (Nat.le_of_ble_eq_true rfl)
  have e1 : (wB z (l ++ [.inr (9, dfA 9)])).1 = l.length + 1 := List.length_append
  rw [e1, df_9]
  refine x_lo (lo' := [some (.ref l.length)]) rfl ?_
  refine x_al rfl rfl ?_
  refine y_obj rfl (Nat.le_of_ble_eq_true rfl) ?_
  refine x_al rfl rfl ?_
  refine x_c rfl ?_
  refine y_newa (xs' := .inr (9, [.null, .int 0, .int 0, .null, .null, .null, .int 0, .int 0]) :: ([.inl (0, 400, [])])) (q := l.length + 1) (n := 400) rfl rfl (by decide) (by show l.length + 1 < N0; omega) (by show l.length + 1 = l.length + 1 + 0; omega) (Nat.le_of_ble_eq_true rfl) (Nat.le_of_ble_eq_true rfl) rfl rfl ?_
  refine y_put (j := 0) (xs' := .inr (9, [.ref (l.length + 1), .int 0, .int 0, .null, .null, .null, .int 0, .int 0]) :: ([.inl (0, 400, [])])) (Or.inr rfl) rfl rfl (Nat.le_of_ble_eq_true rfl) rfl rfl rfl rfl ?_
  refine x_al rfl rfl ?_
  refine x_c rfl ?_
  refine y_put (j := 0) (xs' := .inr (9, [.ref (l.length + 1), .int 0, .int (-1), .null, .null, .null, .int 0, .int 0]) :: ([.inl (0, 400, [])])) (Or.inl rfl) rfl rfl (Nat.le_of_ble_eq_true rfl) rfl rfl rfl rfl ?_
  refine x_al rfl rfl ?_
  refine x_c rfl ?_
  refine y_newa (xs' := .inr (9, [.ref (l.length + 1), .int 0, .int (-1), .null, .null, .null, .int 0, .int 0]) :: ([.inl (0, 400, [])] ++ [.inl (0, 400, [])])) (q := l.length + 2) (n := 400) rfl rfl (by decide) (by show l.length + 2 < N0; omega) (by show l.length + 2 = l.length + 1 + 1; omega) (Nat.le_of_ble_eq_true rfl) (Nat.le_of_ble_eq_true rfl) rfl rfl ?_
  refine y_put (j := 0) (xs' := .inr (9, [.ref (l.length + 1), .int 0, .int (-1), .ref (l.length + 2), .null, .null, .int 0, .int 0]) :: ([.inl (0, 400, [])] ++ [.inl (0, 400, [])])) (Or.inr rfl) rfl rfl (Nat.le_of_ble_eq_true rfl) rfl rfl rfl rfl ?_
  refine x_al rfl rfl ?_
  refine x_c rfl ?_
  refine y_newa (xs' := .inr (9, [.ref (l.length + 1), .int 0, .int (-1), .ref (l.length + 2), .null, .null, .int 0, .int 0]) :: ([.inl (0, 400, [])] ++ [.inl (0, 400, [])] ++ [.inl (0, 400, [])])) (q := l.length + 3) (n := 400) rfl rfl (by decide) (by show l.length + 3 < N0; omega) (by show l.length + 3 = l.length + 1 + 2; omega) (Nat.le_of_ble_eq_true rfl) (Nat.le_of_ble_eq_true rfl) rfl rfl ?_
  refine y_put (j := 0) (xs' := .inr (9, [.ref (l.length + 1), .int 0, .int (-1), .ref (l.length + 2), .ref (l.length + 3), .null, .int 0, .int 0]) :: ([.inl (0, 400, [])] ++ [.inl (0, 400, [])] ++ [.inl (0, 400, [])])) (Or.inr rfl) rfl rfl (Nat.le_of_ble_eq_true rfl) rfl rfl rfl rfl ?_
  refine x_al rfl rfl ?_
  refine x_c rfl ?_
  refine y_newa (xs' := .inr (9, [.ref (l.length + 1), .int 0, .int (-1), .ref (l.length + 2), .ref (l.length + 3), .null, .int 0, .int 0]) :: ([.inl (0, 400, [])] ++ [.inl (0, 400, [])] ++ [.inl (0, 400, [])] ++ [.inl (0, 400, [])])) (q := l.length + 4) (n := 400) rfl rfl (by decide) (by show l.length + 4 < N0; omega) (by show l.length + 4 = l.length + 1 + 3; omega) (Nat.le_of_ble_eq_true rfl) (Nat.le_of_ble_eq_true rfl) rfl rfl ?_
  refine y_put (j := 0) (xs' := .inr (9, [.ref (l.length + 1), .int 0, .int (-1), .ref (l.length + 2), .ref (l.length + 3), .ref (l.length + 4), .int 0, .int 0]) :: ([.inl (0, 400, [])] ++ [.inl (0, 400, [])] ++ [.inl (0, 400, [])] ++ [.inl (0, 400, [])])) (Or.inr rfl) rfl rfl (Nat.le_of_ble_eq_true rfl) rfl rfl rfl rfl ?_
  exact x_retv rfl (Nat.le_of_ble_eq_true rfl) (Nat.le_of_ble_eq_true rfl) rfl ⟨rfl, rfl⟩
theorem b_oLays : Ctor g (d + 2) 14 2 9 oLays := by
  intro z l hN
  have h_oSheet := b_oSheet (g := g) (d := d)
  refine ev_X2_init ?_ (Nat.le_of_ble_eq_true rfl)
  have e1 : (wB z (l ++ [.inr (2, dfA 2)])).1 = l.length + 1 := List.length_append
  rw [e1, df_2]
  refine x_lo (lo' := [some (.ref l.length)]) rfl ?_
  refine x_al rfl rfl ?_
  refine y_obj rfl (Nat.le_of_ble_eq_true rfl) ?_
  refine x_al rfl rfl ?_
  refine y_new (xs' := .inr (2, [.int 0, .int 0, .int 0, .int 0, .int 0, .int 0, .null, .null, .null, .int 0, .null, .int 0]) :: ([.inr (6, [.null, .null, .null, .null, .int 0, .int 0, .int 0, .int 0, .int 0])])) (q := l.length + 1) rfl (by show l.length + 1 < N0; omega) (by show l.length + 1 = l.length + 1 + 0; omega) (Nat.le_of_ble_eq_true rfl) (Nat.le_of_ble_eq_true rfl) (by rw [df_6]; rfl) rfl ?_
  refine x_dup rfl rfl ?_
  refine y_call (xs0 := [.inr (2, [.int 0, .int 0, .int 0, .int 0, .int 0, .int 0, .null, .null, .null, .int 0, .null, .int 0])]) (xs' := .inr (2, [.int 0, .int 0, .int 0, .int 0, .int 0, .int 0, .null, .null, .null, .int 0, .null, .int 0]) :: (oSheet (l.length + 1))) h_oSheet rfl (by show l.length + 1 + 5 ≤ N0; omega) (by rw [df_6]; rfl) rfl (by show l.length + 2 = l.length + 1 + 1; omega) (Nat.le_of_ble_eq_true rfl) (Nat.le_of_ble_eq_true rfl) (Nat.le_of_ble_eq_true rfl) rfl ?_
  refine y_put (j := 0) (xs' := .inr (2, [.int 0, .int 0, .int 0, .int 0, .int 0, .int 0, .ref (l.length + 1), .null, .null, .int 0, .null, .int 0]) :: (oSheet (l.length + 1))) (Or.inr rfl) rfl rfl (Nat.le_of_ble_eq_true rfl) rfl rfl rfl rfl ?_
  refine x_al rfl rfl ?_
  refine x_c rfl ?_
  refine y_newa (xs' := .inr (2, [.int 0, .int 0, .int 0, .int 0, .int 0, .int 0, .ref (l.length + 1), .null, .null, .int 0, .null, .int 0]) :: (oSheet (l.length + 1) ++ [.inl (0, 8, [])])) (q := l.length + 6) (n := 8) rfl rfl (by decide) (by show l.length + 6 < N0; omega) (by show l.length + 6 = l.length + 1 + 5; omega) (Nat.le_of_ble_eq_true rfl) (Nat.le_of_ble_eq_true rfl) rfl rfl ?_
  refine y_put (j := 0) (xs' := .inr (2, [.int 0, .int 0, .int 0, .int 0, .int 0, .int 0, .ref (l.length + 1), .ref (l.length + 6), .null, .int 0, .null, .int 0]) :: (oSheet (l.length + 1) ++ [.inl (0, 8, [])])) (Or.inr rfl) rfl rfl (Nat.le_of_ble_eq_true rfl) rfl rfl rfl rfl ?_
  refine x_al rfl rfl ?_
  refine x_c rfl ?_
  refine y_newa (xs' := .inr (2, [.int 0, .int 0, .int 0, .int 0, .int 0, .int 0, .ref (l.length + 1), .ref (l.length + 6), .null, .int 0, .null, .int 0]) :: (oSheet (l.length + 1) ++ [.inl (0, 8, [])] ++ [.inl (0, 8, [])])) (q := l.length + 7) (n := 8) rfl rfl (by decide) (by show l.length + 7 < N0; omega) (by show l.length + 7 = l.length + 1 + 6; omega) (Nat.le_of_ble_eq_true rfl) (Nat.le_of_ble_eq_true rfl) rfl rfl ?_
  refine y_put (j := 0) (xs' := .inr (2, [.int 0, .int 0, .int 0, .int 0, .int 0, .int 0, .ref (l.length + 1), .ref (l.length + 6), .ref (l.length + 7), .int 0, .null, .int 0]) :: (oSheet (l.length + 1) ++ [.inl (0, 8, [])] ++ [.inl (0, 8, [])])) (Or.inr rfl) rfl rfl (Nat.le_of_ble_eq_true rfl) rfl rfl rfl rfl ?_
  refine x_al rfl rfl ?_
  refine x_c rfl ?_
  refine y_newa (xs' := .inr (2, [.int 0, .int 0, .int 0, .int 0, .int 0, .int 0, .ref (l.length + 1), .ref (l.length + 6), .ref (l.length + 7), .int 0, .null, .int 0]) :: (oSheet (l.length + 1) ++ [.inl (0, 8, [])] ++ [.inl (0, 8, [])] ++ [.inl (0, 28800, [])])) (q := l.length + 8) (n := 28800) rfl rfl (by decide) (by show l.length + 8 < N0; omega) (by show l.length + 8 = l.length + 1 + 7; omega) (Nat.le_of_ble_eq_true rfl) (Nat.le_of_ble_eq_true rfl) rfl rfl ?_
  refine y_put (j := 0) (xs' := .inr (2, [.int 0, .int 0, .int 0, .int 0, .int 0, .int 0, .ref (l.length + 1), .ref (l.length + 6), .ref (l.length + 7), .int 0, .ref (l.length + 8), .int 0]) :: (oSheet (l.length + 1) ++ [.inl (0, 8, [])] ++ [.inl (0, 8, [])] ++ [.inl (0, 28800, [])])) (Or.inr rfl) rfl rfl (Nat.le_of_ble_eq_true rfl) rfl rfl rfl rfl ?_
  refine x_al rfl rfl ?_
  refine x_c rfl ?_
  refine y_put (j := 0) (xs' := .inr (2, [.int 0, .int 0, .int 0, .int 0, .int 0, .int 0, .ref (l.length + 1), .ref (l.length + 6), .ref (l.length + 7), .int 0, .ref (l.length + 8), .int 1]) :: (oSheet (l.length + 1) ++ [.inl (0, 8, [])] ++ [.inl (0, 8, [])] ++ [.inl (0, 28800, [])])) (Or.inl rfl) rfl rfl (Nat.le_of_ble_eq_true rfl) rfl rfl rfl rfl ?_
  exact x_retv rfl (Nat.le_of_ble_eq_true rfl) (Nat.le_of_ble_eq_true rfl) rfl ⟨rfl, rfl⟩
end CT
