/-! lays: pairs, against, the best of all turns and shifts -/
/-- how many of our points find partners -/
def pairS (may : Nat → Int32) (many : Nat) (ho0 : Nat → Int32) : Nat → Nat × (Nat → Int32) := acc (fun i (s : Nat × (Nat → Int32)) => (s.1 + (if (seekF may many 9 i (0, s.2)).1 = true then 1 else 0), (seekF may many 9 i (0, s.2)).2.2)) (0, ho0)
def resetH (ho : Nat → Int32) : Nat → Nat → Int32 := acc (fun j h => upd h j (-1)) ho
def pairN (may : Nat → Int32) (ours many : Nat) (ho0 : Nat → Int32) : Nat := (pairS may many (resetH ho0 many) ours).1
theorem reset_at {ho : Nat → Int32} {n j : Nat} (h : j < n) : resetH ho n j = -1 := by
  induction n with
  | zero => omega
  | succ n ih =>
    show upd (resetH ho n) n (-1) j = -1
    by_cases e : j = n
    · subst e; exact pk_us
    · rw [pk_un e]; exact ih (by omega)
theorem pairS_ho {may : Nat → Int32} {ours many : Nat} {ho0 : Nat → Int32} (ho8 : ours ≤ 8) (hm : many ≤ 8) (h : HoOk ours many ho0) : ∀ r, r ≤ ours → HoOk ours many (pairS may many ho0 r).2 ∧ (pairS may many ho0 r).1 ≤ r := by
  intro r
  induction r with
  | zero => intro _; exact ⟨h, Nat.le_refl _⟩
  | succ r ih =>
    intro hr
    have := ih (by omega)
    refine ⟨(seek_inv ho8 hm 9 r (by omega) (0, (pairS may many ho0 r).2) this.1).2, ?_⟩
    show (pairS may many ho0 r).1 + (if _ then 1 else 0) ≤ _
    split <;> omega
def absI (x : Int32) : Int32 := if 0 ≤ x then x else -x
/-- whether the point at a, turned by q and shifted, may pair with the point at b -/
abbrev mayP (f : Nat → Int32) (a b : Nat) (q sx sy : Int32) : Prop := (f (a + 2) = f (b + 2) ∨ f (a + 2) = 2 ∨ f (b + 2) = 2) ∧ absI (tX q (f a) (f (a + 1)) + sx - f b) ≤ f 1 ∧ absI (tY q (f a) (f (a + 1)) + sy - f (b + 1)) ≤ f 1 ∧ (fMod (f (a + 3) + 4 * q - f (b + 3)) 16 < 2 ∨ fMod (f (a + 3) + 4 * q - f (b + 3)) 16 = 15)
section PAIRS
variable {g : aG} {d : Nat} {w : aW} {m f : Nat → Int32} {A : Nat → Nat → Int32} {B : Nat → Nat → Int64}
theorem n_pairsOf {ours many : Nat} (ho8 : ours ≤ 8) (hm8 : many ≤ 8) (hn : w.1 = N0) : Ev g (d + 10) 225 [.ref 1424, .int (nI ours), .int (nI many)] (rW w m f A B) (fun v w' => v = some (.int (nI (pairN (A 1430) ours many (A 1431)))) ∧ ∃ tr ho, w' = rW w (upd m 20 tr) f (udA A 1431 ho) B) noX := by
  refine ev_X11_pairsOf ?_ (Nat.le_of_ble_eq_true rfl)
  refine x_lo (lo' := [some (.ref 1424), some (.int (nI ours)), some (.int (nI many)), none, none]) rfl ?_
  refine x_c rfl ?_
  refine x_is (lo' := [_, _, _, _, _]) rfl (Nat.le_of_ble_eq_true rfl) rfl ?_
  refine x_c rfl ?_
  refine x_is (lo' := [_, _, _, _, _]) rfl (Nat.le_of_ble_eq_true rfl) rfl ?_
  have loop2 : ∀ i, i ≤ ours → ∀ tr, EX g mbOf (Ev g (d + 9)) (infoOf 225) k_X11_pairsOf (fun v w' => v = some (.int (nI (pairN (A 1430) ours many (A 1431)))) ∧ ∃ tr ho, w' = rW w (upd m 20 tr) f (udA A 1431 ho) B) noX w.1 (rW w (upd m 20 tr) f (udA A 1431 (pairS (A 1430) many (resetH (A 1431) many) i).2) B) 0 0 16 [some (.ref 1424), some (.int (nI ours)), some (.int (nI many)), some (.int (nI (pairS (A 1430) many (resetH (A 1431) many) i).1)), some (.int (nI i))] [] := by
    have hres : HoOk ours many (resetH (A 1431) many) := fun j hj => Or.inl (by rw [reset_at hj]; decide)
    refine downN ours fun i hi ih => ?_
    intro tr
    have hp := pairS_ho (may := A 1430) ho8 hm8 hres i hi
    refine x_il rfl rfl ?_
    refine x_il rfl rfl ?_
    refine x_icgeN rfl (by omega) (fun c => ?_) (fun c => ?_)
    · refine x_il rfl rfl ?_
      refine x_reti rfl (Nat.le_of_ble_eq_true rfl) (Nat.le_of_ble_eq_true rfl) rfl ?_
      rw [show i = ours by omega]
      exact ⟨rfl, _, _, rfl⟩
    refine x_al rfl rfl ?_
    refine x_c rfl ?_
    refine x_putM rfl hn rfl rfl rfl rfl ?_
    rw [show upd (upd m 20 tr) 20 0 = upd m 20 0 from u20]
    refine x_il rfl rfl ?_
    refine x_al rfl rfl ?_
    refine x_il rfl rfl ?_
    refine x_il rfl rfl ?_
    refine x_call3 (n_seeks (ours := ours) ho8 hm8 hn 8 0 _ i c (by have := cn_le (fun j => !bt 0 j) many; omega) hp.1) rfl (Nat.le_of_ble_eq_true rfl) (Or.inl (by first | exact hn | assumption)) (rcv_at (by first | exact rw_md hn | exact rw_w hn | exact rw_A hn (by exact rfl) | exact rw_B2 hn | exact rw_B3 hn | assumption) (by decide) (by decide)) (Nat.le_of_ble_eq_true rfl) (Nat.le_of_ble_eq_true rfl) (fun E w9 hq => hq.elim) ?_
    rintro v9 w9 ⟨rfl, rfl⟩
    have e : pairS (A 1430) many (resetH (A 1431) many) (i + 1) = (((pairS (A 1430) many (resetH (A 1431) many) i).1 + (if (seekF (A 1430) many 9 i (0, (pairS (A 1430) many (resetH (A 1431) many) i).2)).1 = true then 1 else 0)), (seekF (A 1430) many 9 i (0, (pairS (A 1430) many (resetH (A 1431) many) i).2)).2.2) := rfl
    have ih := ih c
    rw [e] at ih
    generalize pairS (A 1430) many (resetH (A 1431) many) i = s at *
    obtain ⟨s1, s2⟩ := s
    generalize hr : seekF (A 1430) many 9 i (0, s2) = r at *
    obtain ⟨r1, r2, r3⟩ := r
    cases r1 with
    | false =>
      refine x_ifeq rfl (fun c => ?_) (fun c => absurd rfl c)
      refine x_c rfl ?_
      refine x_addN (y := 0) rfl ?_
      refine x_is (lo' := [_, _, _, _, _]) rfl (Nat.le_of_ble_eq_true rfl) rfl ?_
      refine x_inc1 (lo' := [_, _, _, _, _]) rfl rfl rfl ?_
      refine x_go rfl ?_
      exact ih r2
    | true =>
      refine x_ifeq rfl (fun c => absurd c (show ¬ (1 : Int32) = 0 by decide)) (fun c => ?_)
      refine x_c rfl ?_
      refine x_go rfl ?_
      refine x_addN (y := 1) rfl ?_
      refine x_is (lo' := [_, _, _, _, _]) rfl (Nat.le_of_ble_eq_true rfl) rfl ?_
      refine x_inc1 (lo' := [_, _, _, _, _]) rfl rfl rfl ?_
      refine x_go rfl ?_
      exact ih r2
  have loop1 : ∀ j, j ≤ many → EX g mbOf (Ev g (d + 9)) (infoOf 225) k_X11_pairsOf (fun v w' => v = some (.int (nI (pairN (A 1430) ours many (A 1431)))) ∧ ∃ tr ho, w' = rW w (upd m 20 tr) f (udA A 1431 ho) B) noX w.1 (rW w m f (udA A 1431 (resetH (A 1431) j)) B) 0 0 4 [some (.ref 1424), some (.int (nI ours)), some (.int (nI many)), some (.int 0), some (.int (nI j))] [] := by
    refine downN many fun j hj ih => ?_
    refine x_il rfl rfl ?_
    refine x_il rfl rfl ?_
    refine x_icgeN rfl (by omega) (fun c => ?_) (fun c => ?_)
    · refine x_c rfl ?_
      refine x_is (lo' := [_, _, _, _, _]) rfl (Nat.le_of_ble_eq_true rfl) rfl ?_
      rw [show j = many by omega]
      have := loop2 0 (Nat.zero_le _) (m 20)
      rw [upd_self] at this
      exact this
    refine x_al rfl rfl ?_
    refine x_get rfl (rw_md hn) (by exact rfl) ?_
    refine x_il rfl rfl ?_
    refine x_c rfl ?_
    first | refine x_iasW rfl hn (by omega) ?_ | refine x_iasA rfl hn (by exact rfl) (by omega) ?_
    refine x_inc1 (lo' := [_, _, _, _, _]) rfl rfl rfl ?_
    refine x_go rfl ?_
    rw [udA_udA]
    exact ih c
  have := loop1 0 (Nat.zero_le _)
  rw [show udA A 1431 (resetH (A 1431) 0) = A from udA_self] at this
  exact this
theorem n_turnedX {x y z : Int32} : Ev g (d + 1) 221 [.int x, .int y, .int z] w (RetQ (tX x y z) w) noX := m_turnedX
theorem n_mayPair {a b : Nat} {q sx sy : Int32} (ha : a + 3 < 22176) (hb : b + 3 < 22176) (hn : w.1 = N0) : Ev g (d + 2) 223 [.ref 1424, .int (nI a), .int (nI b), .int q, .int sx, .int sy] (rW w m f A B) (RetQ (bI (decide (mayP f a b q sx sy))) (rW w m f A B)) noX := by
  refine ev_X11_mayPair ?_ (Nat.le_of_ble_eq_true rfl)
  refine x_lo (lo' := [some (.ref 1424), some (.int (nI a)), some (.int (nI b)), some (.int q), some (.int sx), some (.int sy), none, none, none, none]) rfl ?_
  refine x_il rfl rfl ?_
  refine x_al rfl rfl ?_
  refine x_get rfl (rw_md hn) (by exact rfl) ?_
  refine x_il rfl rfl ?_
  refine x_iaN rfl (by first | exact rw_md hn | exact rw_w hn | exact rw_A hn (by exact rfl) | exact rw_B2 hn | exact rw_B3 hn | assumption) (by omega) ?_
  refine x_al rfl rfl ?_
  refine x_get rfl (rw_md hn) (by exact rfl) ?_
  refine x_il rfl rfl ?_
  refine x_c rfl ?_
  refine x_addN (y := 1) rfl ?_
  refine x_iaN rfl (by first | exact rw_md hn | exact rw_w hn | exact rw_A hn (by exact rfl) | exact rw_B2 hn | exact rw_B3 hn | assumption) (by omega) ?_
  refine x_call3 (m_turnedX) rfl (Nat.le_of_ble_eq_true rfl) (Or.inl (by first | exact hn | assumption)) trivial (Nat.le_of_ble_eq_true rfl) (Nat.le_of_ble_eq_true rfl) (fun E w9 hq => hq.elim) ?_
  rintro v9 w9 ⟨rfl, rfl⟩
  refine x_il rfl rfl ?_
  refine x_add rfl ?_
  refine x_al rfl rfl ?_
  refine x_get rfl (rw_md hn) (by exact rfl) ?_
  refine x_il rfl rfl ?_
  refine x_iaN rfl (by first | exact rw_md hn | exact rw_w hn | exact rw_A hn (by exact rfl) | exact rw_B2 hn | exact rw_B3 hn | assumption) (by omega) ?_
  refine x_sub rfl ?_
  refine x_is (lo' := [_, _, _, _, _, _, _, _, _, _]) rfl (Nat.le_of_ble_eq_true rfl) rfl ?_
  refine x_il rfl rfl ?_
  refine x_al rfl rfl ?_
  refine x_get rfl (rw_md hn) (by exact rfl) ?_
  refine x_il rfl rfl ?_
  refine x_iaN rfl (by first | exact rw_md hn | exact rw_w hn | exact rw_A hn (by exact rfl) | exact rw_B2 hn | exact rw_B3 hn | assumption) (by omega) ?_
  refine x_al rfl rfl ?_
  refine x_get rfl (rw_md hn) (by exact rfl) ?_
  refine x_il rfl rfl ?_
  refine x_c rfl ?_
  refine x_addN (y := 1) rfl ?_
  refine x_iaN rfl (by first | exact rw_md hn | exact rw_w hn | exact rw_A hn (by exact rfl) | exact rw_B2 hn | exact rw_B3 hn | assumption) (by omega) ?_
  refine x_call3 (m_turnedY) rfl (Nat.le_of_ble_eq_true rfl) (Or.inl (by first | exact hn | assumption)) trivial (Nat.le_of_ble_eq_true rfl) (Nat.le_of_ble_eq_true rfl) (fun E w9 hq => hq.elim) ?_
  rintro v9 w9 ⟨rfl, rfl⟩
  refine x_il rfl rfl ?_
  refine x_add rfl ?_
  refine x_al rfl rfl ?_
  refine x_get rfl (rw_md hn) (by exact rfl) ?_
  refine x_il rfl rfl ?_
  refine x_c rfl ?_
  refine x_addN (y := 1) rfl ?_
  refine x_iaN rfl (by first | exact rw_md hn | exact rw_w hn | exact rw_A hn (by exact rfl) | exact rw_B2 hn | exact rw_B3 hn | assumption) (by omega) ?_
  refine x_sub rfl ?_
  refine x_is (lo' := [_, _, _, _, _, _, _, _, _, _]) rfl (Nat.le_of_ble_eq_true rfl) rfl ?_
  refine x_al rfl rfl ?_
  refine x_get rfl (rw_md hn) (by exact rfl) ?_
  refine x_il rfl rfl ?_
  refine x_c rfl ?_
  refine x_addN (y := 3) rfl ?_
  refine x_iaN rfl (by first | exact rw_md hn | exact rw_w hn | exact rw_A hn (by exact rfl) | exact rw_B2 hn | exact rw_B3 hn | assumption) (by omega) ?_
  refine x_c rfl ?_
  refine x_il rfl rfl ?_
  refine x_mul rfl ?_
  refine x_add rfl ?_
  refine x_al rfl rfl ?_
  refine x_get rfl (rw_md hn) (by exact rfl) ?_
  refine x_il rfl rfl ?_
  refine x_c rfl ?_
  refine x_addN (y := 3) rfl ?_
  refine x_iaN rfl (by first | exact rw_md hn | exact rw_w hn | exact rw_A hn (by exact rfl) | exact rw_B2 hn | exact rw_B3 hn | assumption) (by omega) ?_
  refine x_sub rfl ?_
  refine x_c rfl ?_
  refine x_call2 (m_floorMod (by decide)) rfl (Nat.le_of_ble_eq_true rfl) (Or.inl (by first | exact hn | assumption)) trivial (Nat.le_of_ble_eq_true rfl) (Nat.le_of_ble_eq_true rfl) (fun E w9 hq => hq.elim) ?_
  rintro v9 w9 ⟨rfl, rfl⟩
  refine x_is (lo' := [_, _, _, _, _, _, _, _, _, _]) rfl (Nat.le_of_ble_eq_true rfl) rfl ?_
  refine x_al rfl rfl ?_
  refine x_get rfl (rw_md hn) (by exact rfl) ?_
  refine x_il rfl rfl ?_
  refine x_c rfl ?_
  refine x_addN (y := 2) rfl ?_
  refine x_iaN rfl (by first | exact rw_md hn | exact rw_w hn | exact rw_A hn (by exact rfl) | exact rw_B2 hn | exact rw_B3 hn | assumption) (by omega) ?_
  refine x_al rfl rfl ?_
  refine x_get rfl (rw_md hn) (by exact rfl) ?_
  refine x_il rfl rfl ?_
  refine x_c rfl ?_
  refine x_addN (y := 2) rfl ?_
  refine x_iaN rfl (by first | exact rw_md hn | exact rw_w hn | exact rw_A hn (by exact rfl) | exact rw_B2 hn | exact rw_B3 hn | assumption) (by omega) ?_
  have tail : ∀ P : Prop, [Decidable P] → (P ↔ (f (a + 2) = f (b + 2) ∨ f (a + 2) = 2 ∨ f (b + 2) = 2)) → ∀ o9, EX g mbOf (Ev g (d + 1)) (infoOf 223) k_X11_mayPair (RetQ (bI (decide (mayP f a b q sx sy))) (rW w m f A B)) noX w.1 (rW w m f A B) 0 0 94 [some (.ref 1424), some (.int (nI a)), some (.int (nI b)), some (.int q), some (.int sx), some (.int sy), some (.int (tX q (f a) (f (a + 1)) + sx - f b)), some (.int (tY q (f a) (f (a + 1)) + sy - f (b + 1))), some (.int (fMod (f (a + 3) + 4 * q - f (b + 3)) 16)), o9] [.int (bI (decide P))] := by
    intro P _ hP o9
    refine x_is (lo' := [_, _, _, _, _, _, _, _, _, _]) rfl (Nat.le_of_ble_eq_true rfl) rfl ?_
    refine x_il rfl rfl ?_
    refine x_ifeqB rfl (fun c1 => ?_) (fun c1 => ?_)
    · refine x_c rfl ?_
      refine x_retz rfl (Nat.le_of_ble_eq_true rfl) (Nat.le_of_ble_eq_true rfl) rfl (by first | rfl | assumption) ?_
      exact ret_f (fun h => c1 (hP.mpr h.1))
    refine x_il rfl rfl ?_
    have c1 := hP.mp c1
    refine x_call1 (m_abs) rfl (Nat.le_of_ble_eq_true rfl) (Or.inl (by first | exact hn | assumption)) trivial (Nat.le_of_ble_eq_true rfl) (Nat.le_of_ble_eq_true rfl) (fun E w9 hq => hq.elim) ?_
    rintro v9 w9 ⟨rfl, rfl⟩
    refine x_al rfl rfl ?_
    refine x_get rfl (rw_md hn) (by exact rfl) ?_
    refine x_c rfl ?_
    refine x_iaN (j := 1) rfl (by first | exact rw_md hn | exact rw_w hn | exact rw_A hn (by exact rfl) | exact rw_B2 hn | exact rw_B3 hn | assumption) (by omega) ?_
    refine x_icgt rfl (fun c2 => ?_) (fun c2 => ?_)
    · refine x_c rfl ?_
      refine x_retz rfl (Nat.le_of_ble_eq_true rfl) (Nat.le_of_ble_eq_true rfl) rfl (by first | rfl | assumption) ?_
      exact ret_f (fun h => absurd c2 (Int32.not_lt.mpr h.2.1))
    refine x_il rfl rfl ?_
    have c2 := Int32.not_lt.mp c2
    refine x_call1 (m_abs) rfl (Nat.le_of_ble_eq_true rfl) (Or.inl (by first | exact hn | assumption)) trivial (Nat.le_of_ble_eq_true rfl) (Nat.le_of_ble_eq_true rfl) (fun E w9 hq => hq.elim) ?_
    rintro v9 w9 ⟨rfl, rfl⟩
    refine x_al rfl rfl ?_
    refine x_get rfl (rw_md hn) (by exact rfl) ?_
    refine x_c rfl ?_
    refine x_iaN (j := 1) rfl (by first | exact rw_md hn | exact rw_w hn | exact rw_A hn (by exact rfl) | exact rw_B2 hn | exact rw_B3 hn | assumption) (by omega) ?_
    refine x_icgt rfl (fun c3 => ?_) (fun c3 => ?_)
    · refine x_c rfl ?_
      refine x_retz rfl (Nat.le_of_ble_eq_true rfl) (Nat.le_of_ble_eq_true rfl) rfl (by first | rfl | assumption) ?_
      exact ret_f (fun h => absurd c3 (Int32.not_lt.mpr h.2.2.1))
    refine x_il rfl rfl ?_
    refine x_c rfl ?_
    have c3 := Int32.not_lt.mp c3
    refine x_iclt rfl (fun c4 => ?_) (fun c4 => ?_)
    · refine x_c rfl ?_
      refine x_go rfl ?_
      refine x_retz rfl (Nat.le_of_ble_eq_true rfl) (Nat.le_of_ble_eq_true rfl) rfl (by first | rfl | assumption) ?_
      exact ret_t ⟨c1, c2, c3, Or.inl c4⟩
    refine x_il rfl rfl ?_
    refine x_c rfl ?_
    refine x_icne rfl (fun c5 => ?_) (fun c5 => ?_)
    · refine x_c rfl ?_
      refine x_retz rfl (Nat.le_of_ble_eq_true rfl) (Nat.le_of_ble_eq_true rfl) rfl (by first | rfl | assumption) ?_
      exact ret_f (fun h => h.2.2.2.elim c4 c5)
    refine x_c rfl ?_
    refine x_go rfl ?_
    refine x_retz rfl (Nat.le_of_ble_eq_true rfl) (Nat.le_of_ble_eq_true rfl) rfl (by first | rfl | assumption) ?_
    exact ret_t ⟨c1, c2, c3, Or.inr c5⟩
  refine x_iceq rfl (fun c1 => ?_) (fun c1 => ?_)
  · refine x_c rfl ?_
    refine x_go rfl ?_
    exact tail True (by simp [c1]) _
  refine x_al rfl rfl ?_
  refine x_get rfl (rw_md hn) (by exact rfl) ?_
  refine x_il rfl rfl ?_
  refine x_c rfl ?_
  refine x_addN (y := 2) rfl ?_
  refine x_iaN rfl (by first | exact rw_md hn | exact rw_w hn | exact rw_A hn (by exact rfl) | exact rw_B2 hn | exact rw_B3 hn | assumption) (by omega) ?_
  refine x_c rfl ?_
  refine x_iceq rfl (fun c2 => ?_) (fun c2 => ?_)
  · refine x_c rfl ?_
    refine x_go rfl ?_
    exact tail True (by simp [c2]) _
  refine x_al rfl rfl ?_
  refine x_get rfl (rw_md hn) (by exact rfl) ?_
  refine x_il rfl rfl ?_
  refine x_c rfl ?_
  refine x_addN (y := 2) rfl ?_
  refine x_iaN rfl (by first | exact rw_md hn | exact rw_w hn | exact rw_A hn (by exact rfl) | exact rw_B2 hn | exact rw_B3 hn | assumption) (by omega) ?_
  refine x_c rfl ?_
  refine x_icne rfl (fun c3 => ?_) (fun c3 => ?_)
  · refine x_c rfl ?_
    exact tail False (by simp [c1, c2, c3]) _
  refine x_c rfl ?_
  refine x_go rfl ?_
  exact tail True (by simp [c3]) _
end PAIRS
