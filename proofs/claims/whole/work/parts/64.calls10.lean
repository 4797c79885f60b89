/-! count, fault, end, image, back; mset_ -/
def cntW (f : Nat → Int32) (n nc : Nat) (v : Int32) : Int32 := if v = 0 then f 0 else if v = 1 then f 4 else if v = 2 then f 6606 else if v = 3 then nI (cn (fun c => decide (f (6607 + 26 * c + 2) < 0)) nc) else if v = 4 then f 5825 else if v = 5 then f 12825 else if v = 6 then rulN f (bestT f (f 0) n) else if v = 7 then f 10223 else if v = 8 then f 11424 else if v = 9 then f 3 else if v = 10 then f 1 else if v = 11 then f 2 else -1
def cpyI (a b : Nat → Int32) : Nat → Nat → Int32 := acc (fun k h => upd h k (a k)) b
section CALLS
variable {g : aG} {d : Nat} {w : aW} {m f : Nat → Int32} {A : Nat → Nat → Int32} {B : Nat → Nat → Int64}
theorem r_count {v : Int32} {n nc : Nat} (hT : WT f n) (hc : f 6606 = nI nc) (h16 : nc ≤ 16) (hn : w.1 = N0) : Ev g (d + 4) 297 [.ref 1424, .int v] (rW w m f A B) (OpQ w m f A (some (.int (cntW f n nc v))) 0) noX := by
  refine ev_X11_count ?_ (Nat.le_of_ble_eq_true rfl)
  refine x_lo (lo' := [some (.ref 1424), some (.int v), none, none]) rfl ?_
  refine x_al rfl rfl ?_
  refine x_c rfl ?_
  refine x_putM rfl hn rfl rfl rfl (mset_0 _ _) ?_
  refine x_c rfl ?_
  refine x_is (lo' := [_, _, _, _]) rfl (Nat.le_of_ble_eq_true rfl) rfl ?_
  refine x_il rfl rfl ?_
  have filed : ∀ c, c ≤ nc → EX g mbOf (Ev g (d + 3)) (infoOf 297) k_X11_count (OpQ w m f A (some (.int (nI (cn (fun c => decide (f (6607 + 26 * c + 2) < 0)) nc)))) 0) noX w.1 (rW w (upd m 0 0) f A B) 0 0 22 [some (.ref 1424), some (.int 3), some (.int (nI (cn (fun c => decide (f (6607 + 26 * c + 2) < 0)) c))), some (.int (nI c))] [] := by
    refine downN nc fun c hcc ih => ?_
    refine x_il rfl rfl ?_
    refine x_al rfl rfl ?_
    refine x_get rfl (rw_md hn) (by exact rfl) ?_
    refine x_c rfl ?_
    refine x_iaN (j := 6606) rfl (by first | exact rw_md hn | exact rw_w hn | exact rw_A hn (by exact rfl) | exact rw_B2 hn | exact rw_B3 hn | assumption) (by omega) ?_
    rw [hc]
    refine x_icgeN rfl (by omega) (fun c0 => ?_) (fun c0 => ?_)
    · refine x_il rfl rfl ?_
      refine x_reti rfl (Nat.le_of_ble_eq_true rfl) (Nat.le_of_ble_eq_true rfl) rfl ?_
      obtain rfl : c = nc := by omega
      exact opq_s
    refine x_il rfl rfl ?_
    refine x_al rfl rfl ?_
    refine x_il rfl rfl ?_
    have ih := ih c0
    have hst : cn (fun c => decide (f (6607 + 26 * c + 2) < 0)) (c + 1) = cn (fun c => decide (f (6607 + 26 * c + 2) < 0)) c + if decide (f (6607 + 26 * c + 2) < 0) = true then 1 else 0 := rfl
    rw [hst] at ih
    generalize cn (fun c => decide (f (6607 + 26 * c + 2) < 0)) c = o at *
    refine x_call2 (n_isFiled (by omega) hn) rfl (Nat.le_of_ble_eq_true rfl) (Or.inl (by first | exact hn | assumption)) (rcv_at (by first | exact rw_md hn | exact rw_w hn | exact rw_A hn (by exact rfl) | exact rw_B2 hn | exact rw_B3 hn | assumption) (by decide) (by decide)) (Nat.le_of_ble_eq_true rfl) (Nat.le_of_ble_eq_true rfl) (fun E w9 hq => hq.elim) ?_
    rintro v9 w9 ⟨rfl, rfl⟩
    refine x_ifeqB rfl (fun c1 => ?_) (fun c1 => ?_)
    · refine x_c rfl ?_
      rw [if_neg (by rw [decide_eq_true_iff]; exact c1)] at ih
      refine x_addN (y := 0) rfl ?_
      refine x_is (lo' := [_, _, _, _]) rfl (Nat.le_of_ble_eq_true rfl) rfl ?_
      refine x_inc1 (lo' := [_, _, _, _]) rfl rfl rfl ?_
      refine x_go rfl ?_
      exact ih
    refine x_c rfl ?_
    refine x_go rfl ?_
    rw [if_pos (by rw [decide_eq_true_iff]; exact c1)] at ih
    refine x_addN (y := 1) rfl ?_
    refine x_is (lo' := [_, _, _, _]) rfl (Nat.le_of_ble_eq_true rfl) rfl ?_
    refine x_inc1 (lo' := [_, _, _, _]) rfl rfl rfl ?_
    refine x_go rfl ?_
    exact ih
  cases hb : okN v 12 with
  | false =>
    have h1 := of_decide_eq_false hb
    have hno : ∀ k : Nat, k < 12 → ¬ v = nI k := by
      intro k hk e
      exact h1 (by rw [e]; exact ⟨nI_pos' (by omega), nI_lt hk (by omega)⟩)
    have hR : cntW f n nc v = -1 := by
      unfold cntW
      rw [if_neg (show ¬ v = 0 from hno 0 (by decide)), if_neg (show ¬ v = 1 from hno 1 (by decide)), if_neg (show ¬ v = 2 from hno 2 (by decide)), if_neg (show ¬ v = 3 from hno 3 (by decide)), if_neg (show ¬ v = 4 from hno 4 (by decide)), if_neg (show ¬ v = 5 from hno 5 (by decide)), if_neg (show ¬ v = 6 from hno 6 (by decide)), if_neg (show ¬ v = 7 from hno 7 (by decide)), if_neg (show ¬ v = 8 from hno 8 (by decide)), if_neg (show ¬ v = 9 from hno 9 (by decide)), if_neg (show ¬ v = 10 from hno 10 (by decide)), if_neg (show ¬ v = 11 from hno 11 (by decide))]
    rw [hR]
    refine x_swD rfl ?_ ?_
    · rcases Int.lt_or_le v.toInt 0 with h | h
      · exact Or.inl h
      · right
        rcases Int.lt_or_le v.toInt 12 with h2 | h2
        · exact absurd ⟨Int32.le_iff_toInt_le.mpr h, Int32.lt_iff_toInt_lt.mpr h2⟩ h1
        · exact h2
    refine x_c rfl ?_
    refine x_reti rfl (Nat.le_of_ble_eq_true rfl) (Nat.le_of_ble_eq_true rfl) rfl ?_
    exact opq_s
  | true =>
    obtain ⟨u, hu, rfl, -⟩ := ok_of hb (by omega)
    rcases (show u = 0 ∨ u = 1 ∨ u = 2 ∨ u = 3 ∨ u = 4 ∨ u = 5 ∨ u = 6 ∨ u = 7 ∨ u = 8 ∨ u = 9 ∨ u = 10 ∨ u = 11 by omega) with rfl | rfl | rfl | rfl | rfl | rfl | rfl | rfl | rfl | rfl | rfl | rfl
    · refine x_swJ 0 rfl (by decide) rfl ?_
      refine x_al rfl rfl ?_
      refine x_call1 (n_today hn) rfl (Nat.le_of_ble_eq_true rfl) (Or.inl (by first | exact hn | assumption)) (rcv_at (by first | exact rw_md hn | exact rw_w hn | exact rw_A hn (by exact rfl) | exact rw_B2 hn | exact rw_B3 hn | assumption) (by decide) (by decide)) (Nat.le_of_ble_eq_true rfl) (Nat.le_of_ble_eq_true rfl) (fun E w9 hq => hq.elim) ?_
      rintro v9 w9 ⟨rfl, rfl⟩
      refine x_reti rfl (Nat.le_of_ble_eq_true rfl) (Nat.le_of_ble_eq_true rfl) rfl ?_
      exact opq_s
    · refine x_swJ 1 rfl (by decide) rfl ?_
      refine x_al rfl rfl ?_
      refine x_get rfl (rw_md hn) (by exact rfl) ?_
      refine x_c rfl ?_
      refine x_iaN (j := 4) rfl (by first | exact rw_md hn | exact rw_w hn | exact rw_A hn (by exact rfl) | exact rw_B2 hn | exact rw_B3 hn | assumption) (by omega) ?_
      refine x_reti rfl (Nat.le_of_ble_eq_true rfl) (Nat.le_of_ble_eq_true rfl) rfl ?_
      exact opq_s
    · refine x_swJ 2 rfl (by decide) rfl ?_
      refine x_al rfl rfl ?_
      refine x_get rfl (rw_md hn) (by exact rfl) ?_
      refine x_c rfl ?_
      refine x_iaN (j := 6606) rfl (by first | exact rw_md hn | exact rw_w hn | exact rw_A hn (by exact rfl) | exact rw_B2 hn | exact rw_B3 hn | assumption) (by omega) ?_
      refine x_reti rfl (Nat.le_of_ble_eq_true rfl) (Nat.le_of_ble_eq_true rfl) rfl ?_
      exact opq_s
    · refine x_swJ 3 rfl (by decide) rfl ?_
      refine x_c rfl ?_
      refine x_is (lo' := [_, _, _, _]) rfl (Nat.le_of_ble_eq_true rfl) rfl ?_
      exact filed 0 (Nat.zero_le _)
    · refine x_swJ 4 rfl (by decide) rfl ?_
      refine x_al rfl rfl ?_
      refine x_get rfl (rw_md hn) (by exact rfl) ?_
      refine x_c rfl ?_
      refine x_iaN (j := 5825) rfl (by first | exact rw_md hn | exact rw_w hn | exact rw_A hn (by exact rfl) | exact rw_B2 hn | exact rw_B3 hn | assumption) (by omega) ?_
      refine x_reti rfl (Nat.le_of_ble_eq_true rfl) (Nat.le_of_ble_eq_true rfl) rfl ?_
      exact opq_s
    · refine x_swJ 5 rfl (by decide) rfl ?_
      refine x_al rfl rfl ?_
      refine x_get rfl (rw_md hn) (by exact rfl) ?_
      refine x_c rfl ?_
      refine x_iaN (j := 12825) rfl (by first | exact rw_md hn | exact rw_w hn | exact rw_A hn (by exact rfl) | exact rw_B2 hn | exact rw_B3 hn | assumption) (by omega) ?_
      refine x_reti rfl (Nat.le_of_ble_eq_true rfl) (Nat.le_of_ble_eq_true rfl) rfl ?_
      exact opq_s
    · refine x_swJ 6 rfl (by decide) rfl ?_
      refine x_al rfl rfl ?_
      refine x_al rfl rfl ?_
      refine x_al rfl rfl ?_
      refine x_call1 (n_today hn) rfl (Nat.le_of_ble_eq_true rfl) (Or.inl (by first | exact hn | assumption)) (rcv_at (by first | exact rw_md hn | exact rw_w hn | exact rw_A hn (by exact rfl) | exact rw_B2 hn | exact rw_B3 hn | assumption) (by decide) (by decide)) (Nat.le_of_ble_eq_true rfl) (Nat.le_of_ble_eq_true rfl) (fun E w9 hq => hq.elim) ?_
      rintro v9 w9 ⟨rfl, rfl⟩
      refine x_call2 (n_textOf hT.1 hT.2.1 hn) rfl (Nat.le_of_ble_eq_true rfl) (Or.inl (by first | exact hn | assumption)) (rcv_at (by first | exact rw_md hn | exact rw_w hn | exact rw_A hn (by exact rfl) | exact rw_B2 hn | exact rw_B3 hn | assumption) (by decide) (by decide)) (Nat.le_of_ble_eq_true rfl) (Nat.le_of_ble_eq_true rfl) (fun E w9 hq => hq.elim) ?_
      rintro v9 w9 ⟨rfl, rfl⟩
      have ho := hT.best (f 0)
      refine x_call2 (n_rulesOf (fun t h => by rw [h] at ho; exact ho.1) hn) rfl (Nat.le_of_ble_eq_true rfl) (Or.inl (by first | exact hn | assumption)) (rcv_at (by first | exact rw_md hn | exact rw_w hn | exact rw_A hn (by exact rfl) | exact rw_B2 hn | exact rw_B3 hn | assumption) (by decide) (by decide)) (Nat.le_of_ble_eq_true rfl) (Nat.le_of_ble_eq_true rfl) (fun E w9 hq => hq.elim) ?_
      rintro v9 w9 ⟨rfl, rfl⟩
      refine x_reti rfl (Nat.le_of_ble_eq_true rfl) (Nat.le_of_ble_eq_true rfl) rfl ?_
      exact opq_s
    · refine x_swJ 7 rfl (by decide) rfl ?_
      refine x_al rfl rfl ?_
      refine x_get rfl (rw_md hn) (by exact rfl) ?_
      refine x_c rfl ?_
      refine x_iaN (j := 10223) rfl (by first | exact rw_md hn | exact rw_w hn | exact rw_A hn (by exact rfl) | exact rw_B2 hn | exact rw_B3 hn | assumption) (by omega) ?_
      refine x_reti rfl (Nat.le_of_ble_eq_true rfl) (Nat.le_of_ble_eq_true rfl) rfl ?_
      exact opq_s
    · refine x_swJ 8 rfl (by decide) rfl ?_
      refine x_al rfl rfl ?_
      refine x_get rfl (rw_md hn) (by exact rfl) ?_
      refine x_c rfl ?_
      refine x_iaN (j := 11424) rfl (by first | exact rw_md hn | exact rw_w hn | exact rw_A hn (by exact rfl) | exact rw_B2 hn | exact rw_B3 hn | assumption) (by omega) ?_
      refine x_reti rfl (Nat.le_of_ble_eq_true rfl) (Nat.le_of_ble_eq_true rfl) rfl ?_
      exact opq_s
    · refine x_swJ 9 rfl (by decide) rfl ?_
      refine x_al rfl rfl ?_
      refine x_get rfl (rw_md hn) (by exact rfl) ?_
      refine x_c rfl ?_
      refine x_iaN (j := 3) rfl (by first | exact rw_md hn | exact rw_w hn | exact rw_A hn (by exact rfl) | exact rw_B2 hn | exact rw_B3 hn | assumption) (by omega) ?_
      refine x_reti rfl (Nat.le_of_ble_eq_true rfl) (Nat.le_of_ble_eq_true rfl) rfl ?_
      exact opq_s
    · refine x_swJ 10 rfl (by decide) rfl ?_
      refine x_al rfl rfl ?_
      refine x_get rfl (rw_md hn) (by exact rfl) ?_
      refine x_c rfl ?_
      refine x_iaN (j := 1) rfl (by first | exact rw_md hn | exact rw_w hn | exact rw_A hn (by exact rfl) | exact rw_B2 hn | exact rw_B3 hn | assumption) (by omega) ?_
      refine x_reti rfl (Nat.le_of_ble_eq_true rfl) (Nat.le_of_ble_eq_true rfl) rfl ?_
      exact opq_s
    · refine x_swJ 11 rfl (by decide) rfl ?_
      refine x_al rfl rfl ?_
      refine x_get rfl (rw_md hn) (by exact rfl) ?_
      refine x_c rfl ?_
      refine x_iaN (j := 2) rfl (by first | exact rw_md hn | exact rw_w hn | exact rw_A hn (by exact rfl) | exact rw_B2 hn | exact rw_B3 hn | assumption) (by omega) ?_
      refine x_reti rfl (Nat.le_of_ble_eq_true rfl) (Nat.le_of_ble_eq_true rfl) rfl ?_
      exact opq_s
theorem r_fault (hn : w.1 = N0) : Ev g (d + 1) 194 [.ref 1424] (rW w m f A B) (OpQ w m f A (some (.int (m 10))) 0) noX := by
  refine ev_X11_fault ?_ (Nat.le_of_ble_eq_true rfl)
  refine x_lo (lo' := [some (.ref 1424)]) rfl ?_
  refine x_al rfl rfl ?_
  refine x_c rfl ?_
  refine x_putM rfl hn rfl rfl rfl (mset_0 _ _) ?_
  refine x_al rfl rfl ?_
  refine x_get rfl (rw_md hn) (by exact rfl) ?_
  refine x_reti rfl (Nat.le_of_ble_eq_true rfl) (Nat.le_of_ble_eq_true rfl) rfl ?_
  exact opq_s
/-- the calls of the tape and of the image: the numbers afterwards are m', the image's row A' -/
def OpM (w : aW) (f : Nat → Int32) (B : Nat → Nat → Int64) (m' : Nat → Int32) (P : (Nat → Nat → Int32) → Prop) (r : Option Value) : Option Value → aW → Prop := fun v w' => v = r ∧ ∃ A', w' = rW w m' f A' B ∧ P A'
theorem r_end {n : Int32} (hn : w.1 = N0) : Ev g (d + 1) 185 [.ref 1424, .int n] (rW w m f A B) (OpM w f B (if 0 ≤ n ∧ n ≤ m 5 then upd (upd m 0 0) 5 n else upd m 0 0) (fun A' => A' = A) (some (.int (bI (decide (0 ≤ n ∧ n ≤ m 5)))))) noX := by
  refine ev_X11_end ?_ (Nat.le_of_ble_eq_true rfl)
  refine x_lo (lo' := [some (.ref 1424), some (.int n)]) rfl ?_
  refine x_al rfl rfl ?_
  refine x_c rfl ?_
  refine x_putM rfl hn rfl rfl rfl (mset_0 _ _) ?_
  refine x_il rfl rfl ?_
  have no : ¬ (0 ≤ n ∧ n ≤ m 5) → EX g mbOf (Ev g (d)) (infoOf 185) k_X11_end (OpM w f B (if 0 ≤ n ∧ n ≤ m 5 then upd (upd m 0 0) 5 n else upd m 0 0) (fun A' => A' = A) (some (.int (bI (decide (0 ≤ n ∧ n ≤ m 5)))))) noX w.1 (rW w (upd m 0 0) f A B) 0 0 9 [some (.ref 1424), some (.int n)] [] := by
    intro h
    rw [if_neg h, bI_f h]
    refine x_c rfl ?_
    refine x_retz rfl (Nat.le_of_ble_eq_true rfl) (Nat.le_of_ble_eq_true rfl) rfl (by first | rfl | assumption) ?_
    exact ⟨rfl, A, rfl, rfl⟩
  refine x_iflt rfl (fun c1 => ?_) (fun c1 => ?_)
  · skip
    exact no (fun h => absurd c1 (Int32.not_lt.mpr h.1))
  refine x_il rfl rfl ?_
  refine x_al rfl rfl ?_
  refine x_get rfl (rw_md hn) (by exact rfl) ?_
  rw [show upd m 0 0 5 = m 5 from pk_un (by decide)]
  refine x_icle rfl (fun c2 => ?_) (fun c2 => ?_)
  rotate_left
  · skip
    exact no (fun h => c2 h.2)
  rw [if_pos ⟨Int32.not_lt.mp c1, c2⟩, bI_t ⟨Int32.not_lt.mp c1, c2⟩]
  refine x_al rfl rfl ?_
  refine x_il rfl rfl ?_
  refine x_putM rfl hn rfl rfl rfl (mset_5 _ _) ?_
  refine x_c rfl ?_
  refine x_retz rfl (Nat.le_of_ble_eq_true rfl) (Nat.le_of_ble_eq_true rfl) rfl (by first | rfl | assumption) ?_
  exact ⟨rfl, A, rfl, rfl⟩
theorem r_image (hn : w.1 = N0) : Ev g (d + 1) 182 [.ref 1424] (rW w m f A B) (OpM w f B (upd (upd m 0 0) 3 1) (fun A' => A' = udA A 1426 (cpyI f (A 1426) 21326)) none) noX := by
  refine ev_X11_image ?_ (Nat.le_of_ble_eq_true rfl)
  refine x_lo (lo' := [some (.ref 1424), none]) rfl ?_
  refine x_al rfl rfl ?_
  refine x_c rfl ?_
  refine x_putM rfl hn rfl rfl rfl (mset_0 _ _) ?_
  refine x_c rfl ?_
  refine x_is (lo' := [_, _]) rfl (Nat.le_of_ble_eq_true rfl) rfl ?_
  have loop : ∀ k, k ≤ 21326 → EX g mbOf (Ev g (d)) (infoOf 182) k_X11_image (OpM w f B (upd (upd m 0 0) 3 1) (fun A' => A' = udA A 1426 (cpyI f (A 1426) 21326)) none) noX w.1 (rW w (upd m 0 0) f (udA A 1426 (cpyI f (A 1426) k)) B) 0 0 5 [some (.ref 1424), some (.int (nI k))] [] := by
    refine downN 21326 fun k hk ih => ?_
    refine x_il rfl rfl ?_
    refine x_c rfl ?_
    refine x_icgeN (y := 21326) rfl (by omega) (fun c0 => ?_) (fun c0 => ?_)
    · refine x_al rfl rfl ?_
      refine x_c rfl ?_
      refine x_putM rfl hn rfl rfl rfl (mset_3 _ _) ?_
      refine x_retv rfl (Nat.le_of_ble_eq_true rfl) (Nat.le_of_ble_eq_true rfl) rfl ?_
      obtain rfl : k = 21326 := by omega
      exact ⟨rfl, _, rfl, rfl⟩
    refine x_al rfl rfl ?_
    refine x_get rfl (rw_md hn) (by exact rfl) ?_
    refine x_il rfl rfl ?_
    refine x_al rfl rfl ?_
    refine x_get rfl (rw_md hn) (by exact rfl) ?_
    refine x_il rfl rfl ?_
    refine x_iaN rfl (by first | exact rw_md hn | exact rw_w hn | exact rw_A hn (by exact rfl) | exact rw_B2 hn | exact rw_B3 hn | assumption) (by omega) ?_
    first | refine x_iasW rfl hn (by omega) ?_ | refine x_iasA rfl hn (by exact rfl) (by omega) ?_
    refine x_inc1 (lo' := [_, _]) rfl rfl rfl ?_
    refine x_go rfl ?_
    rw [udA_udA]
    exact ih c0
  have := loop 0 (Nat.zero_le _)
  rw [show udA A 1426 (cpyI f (A 1426) 0) = A from udA_self] at this
  exact this
theorem r_back (hn : w.1 = N0) : Ev g (d + 1) 183 [.ref 1424] (rW w m f A B) (fun v w' => (m 3 = 0 ∧ v = some (.int 0) ∧ w' = rW w (upd m 0 0) f A B) ∨ (¬ m 3 = 0 ∧ v = some (.int 1) ∧ w' = rW w (upd m 0 0) (cpyI (A 1426) f 21326) A B)) noX := by
  refine ev_X11_back ?_ (Nat.le_of_ble_eq_true rfl)
  refine x_lo (lo' := [some (.ref 1424), none]) rfl ?_
  refine x_al rfl rfl ?_
  refine x_c rfl ?_
  refine x_putM rfl hn rfl rfl rfl (mset_0 _ _) ?_
  refine x_al rfl rfl ?_
  refine x_get rfl (rw_md hn) (by exact rfl) ?_
  rw [show upd m 0 0 3 = m 3 from pk_un (by decide)]
  refine x_ifne rfl (fun c1 => ?_) (fun c1 => ?_)
  rotate_left
  · refine x_c rfl ?_
    refine x_retz rfl (Nat.le_of_ble_eq_true rfl) (Nat.le_of_ble_eq_true rfl) rfl (by first | rfl | assumption) ?_
    exact Or.inl ⟨c1, rfl, rfl⟩
  refine x_c rfl ?_
  refine x_is (lo' := [_, _]) rfl (Nat.le_of_ble_eq_true rfl) rfl ?_
  have loop : ∀ k, k ≤ 21326 → EX g mbOf (Ev g (d)) (infoOf 183) k_X11_back (fun v w' => (m 3 = 0 ∧ v = some (.int 0) ∧ w' = rW w (upd m 0 0) f A B) ∨ (¬ m 3 = 0 ∧ v = some (.int 1) ∧ w' = rW w (upd m 0 0) (cpyI (A 1426) f 21326) A B)) noX w.1 (rW w (upd m 0 0) (cpyI (A 1426) f k) A B) 0 0 10 [some (.ref 1424), some (.int (nI k))] [] := by
    refine downN 21326 fun k hk ih => ?_
    refine x_il rfl rfl ?_
    refine x_c rfl ?_
    refine x_icgeN (y := 21326) rfl (by omega) (fun c0 => ?_) (fun c0 => ?_)
    · refine x_c rfl ?_
      refine x_retz rfl (Nat.le_of_ble_eq_true rfl) (Nat.le_of_ble_eq_true rfl) rfl (by first | rfl | assumption) ?_
      obtain rfl : k = 21326 := by omega
      exact Or.inr ⟨c1, rfl, rfl⟩
    refine x_al rfl rfl ?_
    refine x_get rfl (rw_md hn) (by exact rfl) ?_
    refine x_il rfl rfl ?_
    refine x_al rfl rfl ?_
    refine x_get rfl (rw_md hn) (by exact rfl) ?_
    refine x_il rfl rfl ?_
    refine x_iaN rfl (by first | exact rw_md hn | exact rw_w hn | exact rw_A hn (by exact rfl) | exact rw_B2 hn | exact rw_B3 hn | assumption) (by omega) ?_
    first | refine x_iasW rfl hn (by omega) ?_ | refine x_iasA rfl hn (by exact rfl) (by omega) ?_
    refine x_inc1 (lo' := [_, _]) rfl rfl rfl ?_
    refine x_go rfl ?_
    exact ih c0
  exact loop 0 (Nat.zero_le _)
end CALLS
