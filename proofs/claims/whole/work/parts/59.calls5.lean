/-! marks, cards, fingers, doubts; mset_ -/
def spB (a b : Int32) : Bool := decide (0 ≤ a ∧ a ≤ b ∧ b ≤ 63)
def markF (f : Nat → Int32) (k : Nat) (x0 y0 x1 y1 : Int32) (gr : Bool) : Nat → Int32 := upd (upd (upd (upd (upd (upd (upd f 5825 (nI (k + 1))) (5826 + 39 * k + 0) (f 0)) (5826 + 39 * k + 1) x0) (5826 + 39 * k + 2) y0) (5826 + 39 * k + 3) x1) (5826 + 39 * k + 4) y1) (5826 + 39 * k + 5) (bI gr)
def blankC (c : Nat) : (Nat → Int32) → Nat → Nat → Int32 := acc (fun k h => upd h (6607 + 26 * c + k) (-1))
def cardF (f : Nat → Int32) (c : Nat) (x : Int32) : Nat → Int32 := upd (upd (blankC c (upd f 6606 (nI (c + 1))) 26) (6607 + 26 * c + 0) x) (6607 + 26 * c + 1) (f 0)
def clrC (c j : Nat) : (Nat → Int32) → Nat → Nat → Int32 := acc (fun k h => upd h (7023 + 10 * (16 * k + c) + j) 0)
def fingF (f : Nat → Int32) (c j : Nat) (x : Int32) : Nat → Int32 := clrC c j (upd f (6607 + 26 * c + (6 + j)) x) 20
theorem blankC_o {c : Nat} {f : Nat → Int32} {i : Nat} (hi : i < 6607) : ∀ k, blankC c f k i = f i := by
  intro k
  induction k with
  | zero => rfl
  | succ k ih =>
    show upd (blankC c f k) (6607 + 26 * c + k) (-1) i = _
    rw [pk_un (by omega)]; exact ih
section CALLS
variable {g : aG} {d : Nat} {w : aW} {m f : Nat → Int32} {A : Nat → Nat → Int32} {B : Nat → Nat → Int64}
theorem r_mark {x0 y0 x1 y1 : Int32} {gr : Bool} {nm : Nat} (hc : f 5825 = nI nm) (h20 : nm ≤ 20) (hn : w.1 = N0) : Ev g (d + 2) 218 [.ref 1424, .int x0, .int y0, .int x1, .int y1, .int (bI gr)] (rW w m f A B) (OpQ w m (if (spB x0 x1 = true ∧ spB y0 y1 = true) ∧ ¬ nm = 20 then markF f nm x0 y0 x1 y1 gr else f) A (some (.int (if (spB x0 x1 = true ∧ spB y0 y1 = true) ∧ ¬ nm = 20 then nI nm else 0))) (if spB x0 x1 = true ∧ spB y0 y1 = true then (if nm = 20 then 2 else 0) else 1)) noX := by
  generalize hF : (if (spB x0 x1 = true ∧ spB y0 y1 = true) ∧ ¬ nm = 20 then markF f nm x0 y0 x1 y1 gr else f) = F
  generalize hR : (if (spB x0 x1 = true ∧ spB y0 y1 = true) ∧ ¬ nm = 20 then nI nm else 0) = R
  generalize hT : (if spB x0 x1 = true ∧ spB y0 y1 = true then (if nm = 20 then (2 : Int32) else 0) else 1) = T
  have bad : ¬ (spB x0 x1 = true ∧ spB y0 y1 = true) → EX g mbOf (Ev g (d + 1)) (infoOf 218) k_X11_mark (OpQ w m F A (some (.int R)) T) noX w.1 (rW w (upd m 0 0) f A B) 0 0 20 [some (.ref 1424), some (.int x0), some (.int y0), some (.int x1), some (.int y1), some (.int (bI gr)), none] [.ref 1424] := by
    intro h
    rw [if_neg (fun q => h q.1)] at hF hR
    rw [if_neg h] at hT
    subst hF; subst hR; subst hT
    refine x_c rfl ?_
    refine x_go rfl ?_
    refine x_c rfl ?_
    refine x_call3 (n_throwsIf (b := true) hn) rfl (Nat.le_of_ble_eq_true rfl) (Or.inl (by first | exact hn | assumption)) (rcv_at (by first | exact rw_md hn | exact rw_w hn | exact rw_A hn (by exact rfl) | exact rw_B2 hn | exact rw_B3 hn | assumption) (by decide) (by decide)) (Nat.le_of_ble_eq_true rfl) (Nat.le_of_ble_eq_true rfl) (fun E w9 hq => hq.elim) ?_
    rintro v9 w9 ⟨rfl, rfl⟩
    refine x_ifne rfl (fun c => ?_) (fun c => absurd c (show ¬ (1 : Int32) = 0 by decide))
    refine x_c rfl ?_
    refine x_reti rfl (Nat.le_of_ble_eq_true rfl) (Nat.le_of_ble_eq_true rfl) rfl ?_
    exact opq_t
  refine ev_X11_mark ?_ (Nat.le_of_ble_eq_true rfl)
  refine x_lo (lo' := [some (.ref 1424), some (.int x0), some (.int y0), some (.int x1), some (.int y1), some (.int (bI gr)), none]) rfl ?_
  refine x_al rfl rfl ?_
  refine x_c rfl ?_
  refine x_putM rfl hn rfl rfl rfl (mset_0 _ _) ?_
  refine x_al rfl rfl ?_
  refine x_il rfl rfl ?_
  refine x_iflt rfl (fun c1 => ?_) (fun c1 => ?_)
  · skip
    exact bad (fun h => by have := (of_decide_eq_true h.1).1; exact absurd c1 (Int32.not_lt.mpr this))
  refine x_il rfl rfl ?_
  refine x_il rfl rfl ?_
  refine x_iclt rfl (fun c2 => ?_) (fun c2 => ?_)
  · skip
    exact bad (fun h => by have := (of_decide_eq_true h.1).2.1; exact absurd c2 (Int32.not_lt.mpr this))
  refine x_il rfl rfl ?_
  refine x_c rfl ?_
  refine x_icgt rfl (fun c3 => ?_) (fun c3 => ?_)
  · skip
    exact bad (fun h => by have := (of_decide_eq_true h.1).2.2; exact absurd c3 (Int32.not_lt.mpr this))
  refine x_il rfl rfl ?_
  refine x_iflt rfl (fun c4 => ?_) (fun c4 => ?_)
  · skip
    exact bad (fun h => by have := (of_decide_eq_true h.2).1; exact absurd c4 (Int32.not_lt.mpr this))
  refine x_il rfl rfl ?_
  refine x_il rfl rfl ?_
  refine x_iclt rfl (fun c5 => ?_) (fun c5 => ?_)
  · skip
    exact bad (fun h => by have := (of_decide_eq_true h.2).2.1; exact absurd c5 (Int32.not_lt.mpr this))
  refine x_il rfl rfl ?_
  refine x_c rfl ?_
  refine x_icle rfl (fun c6 => ?_) (fun c6 => ?_)
  rotate_left
  · skip
    exact bad (fun h => by have := (of_decide_eq_true h.2).2.2; exact c6 this)
  refine x_c rfl ?_
  have ok : spB x0 x1 = true ∧ spB y0 y1 = true := ⟨decide_eq_true ⟨Int32.not_lt.mp c1, Int32.not_lt.mp c2, Int32.not_lt.mp c3⟩, decide_eq_true ⟨Int32.not_lt.mp c4, Int32.not_lt.mp c5, c6⟩⟩
  rw [if_pos ok] at hT
  refine x_c rfl ?_
  refine x_call3 (n_throwsIf (b := false) hn) rfl (Nat.le_of_ble_eq_true rfl) (Or.inl (by first | exact hn | assumption)) (rcv_at (by first | exact rw_md hn | exact rw_w hn | exact rw_A hn (by exact rfl) | exact rw_B2 hn | exact rw_B3 hn | assumption) (by decide) (by decide)) (Nat.le_of_ble_eq_true rfl) (Nat.le_of_ble_eq_true rfl) (fun E w9 hq => hq.elim) ?_
  rintro v9 w9 ⟨rfl, rfl⟩
  refine x_ifne rfl (fun c => absurd rfl c) (fun c => ?_)
  refine x_al rfl rfl ?_
  refine x_al rfl rfl ?_
  refine x_get rfl (rw_md hn) (by exact rfl) ?_
  refine x_c rfl ?_
  refine x_iaN (j := 5825) rfl (by first | exact rw_md hn | exact rw_w hn | exact rw_A hn (by exact rfl) | exact rw_B2 hn | exact rw_B3 hn | assumption) (by omega) ?_
  rw [hc]
  refine x_c rfl ?_
  refine x_icneN (y := 20) rfl (by omega) (fun c7 => ?_) (fun c7 => ?_)
  rotate_left
  · refine x_c rfl ?_
    refine x_go rfl ?_
    rw [if_neg (fun q => q.2 c7)] at hF hR
    rw [if_pos c7] at hT
    subst hF; subst hR; subst hT
    refine x_c rfl ?_
    refine x_call3 (n_throwsIf (b := true) hn) rfl (Nat.le_of_ble_eq_true rfl) (Or.inl (by first | exact hn | assumption)) (rcv_at (by first | exact rw_md hn | exact rw_w hn | exact rw_A hn (by exact rfl) | exact rw_B2 hn | exact rw_B3 hn | assumption) (by decide) (by decide)) (Nat.le_of_ble_eq_true rfl) (Nat.le_of_ble_eq_true rfl) (fun E w9 hq => hq.elim) ?_
    rintro v9 w9 ⟨rfl, rfl⟩
    refine x_ifeq rfl (fun c => absurd c (show ¬ (1 : Int32) = 0 by decide)) (fun c => ?_)
    refine x_c rfl ?_
    refine x_reti rfl (Nat.le_of_ble_eq_true rfl) (Nat.le_of_ble_eq_true rfl) rfl ?_
    exact opq_t
  refine x_c rfl ?_
  rw [if_pos ⟨ok, c7⟩] at hF hR
  rw [if_neg c7] at hT
  subst hF; subst hR; subst hT
  refine x_c rfl ?_
  refine x_call3 (n_throwsIf (b := false) hn) rfl (Nat.le_of_ble_eq_true rfl) (Or.inl (by first | exact hn | assumption)) (rcv_at (by first | exact rw_md hn | exact rw_w hn | exact rw_A hn (by exact rfl) | exact rw_B2 hn | exact rw_B3 hn | assumption) (by decide) (by decide)) (Nat.le_of_ble_eq_true rfl) (Nat.le_of_ble_eq_true rfl) (fun E w9 hq => hq.elim) ?_
  rintro v9 w9 ⟨rfl, rfl⟩
  refine x_ifeq rfl (fun c => ?_) (fun c => absurd rfl c)
  refine x_al rfl rfl ?_
  refine x_get rfl (rw_md hn) (by exact rfl) ?_
  refine x_c rfl ?_
  refine x_iaN (j := 5825) rfl (by first | exact rw_md hn | exact rw_w hn | exact rw_A hn (by exact rfl) | exact rw_B2 hn | exact rw_B3 hn | assumption) (by omega) ?_
  rw [hc]
  refine x_is (lo' := [_, _, _, _, _, _, _]) rfl (Nat.le_of_ble_eq_true rfl) rfl ?_
  refine x_al rfl rfl ?_
  refine x_get rfl (rw_md hn) (by exact rfl) ?_
  refine x_c rfl ?_
  refine x_dup2 rfl rfl rfl ?_
  refine x_iaN (j := 5825) rfl (by first | exact rw_md hn | exact rw_w hn | exact rw_A hn (by exact rfl) | exact rw_B2 hn | exact rw_B3 hn | assumption) (by omega) ?_
  rw [hc]
  refine x_c rfl ?_
  refine x_addN (y := 1) rfl ?_
  first | refine x_iasW (j := 5825) rfl hn (by omega) ?_ | refine x_iasA (j := 5825) rfl hn (by exact rfl) (by omega) ?_
  refine x_al rfl rfl ?_
  refine x_get rfl (rw_md hn) (by exact rfl) ?_
  refine x_il rfl rfl ?_
  refine x_c rfl ?_
  refine x_call2 (m_markAt (k := 0)) rfl (Nat.le_of_ble_eq_true rfl) (Or.inl (by first | exact hn | assumption)) trivial (Nat.le_of_ble_eq_true rfl) (Nat.le_of_ble_eq_true rfl) (fun E w9 hq => hq.elim) ?_
  rintro v9 w9 ⟨rfl, rfl⟩
  refine x_al rfl rfl ?_
  refine x_call1 (n_today hn) rfl (Nat.le_of_ble_eq_true rfl) (Or.inl (by first | exact hn | assumption)) (rcv_at (by first | exact rw_md hn | exact rw_w hn | exact rw_A hn (by exact rfl) | exact rw_B2 hn | exact rw_B3 hn | assumption) (by decide) (by decide)) (Nat.le_of_ble_eq_true rfl) (Nat.le_of_ble_eq_true rfl) (fun E w9 hq => hq.elim) ?_
  rintro v9 w9 ⟨rfl, rfl⟩
  rw [pk_un (by decide)]
  first | refine x_iasW rfl hn (by omega) ?_ | refine x_iasA rfl hn (by exact rfl) (by omega) ?_
  refine x_al rfl rfl ?_
  refine x_get rfl (rw_md hn) (by exact rfl) ?_
  refine x_il rfl rfl ?_
  refine x_c rfl ?_
  refine x_call2 (m_markAt (k := 1)) rfl (Nat.le_of_ble_eq_true rfl) (Or.inl (by first | exact hn | assumption)) trivial (Nat.le_of_ble_eq_true rfl) (Nat.le_of_ble_eq_true rfl) (fun E w9 hq => hq.elim) ?_
  rintro v9 w9 ⟨rfl, rfl⟩
  refine x_il rfl rfl ?_
  first | refine x_iasW rfl hn (by omega) ?_ | refine x_iasA rfl hn (by exact rfl) (by omega) ?_
  refine x_al rfl rfl ?_
  refine x_get rfl (rw_md hn) (by exact rfl) ?_
  refine x_il rfl rfl ?_
  refine x_c rfl ?_
  refine x_call2 (m_markAt (k := 2)) rfl (Nat.le_of_ble_eq_true rfl) (Or.inl (by first | exact hn | assumption)) trivial (Nat.le_of_ble_eq_true rfl) (Nat.le_of_ble_eq_true rfl) (fun E w9 hq => hq.elim) ?_
  rintro v9 w9 ⟨rfl, rfl⟩
  refine x_il rfl rfl ?_
  first | refine x_iasW rfl hn (by omega) ?_ | refine x_iasA rfl hn (by exact rfl) (by omega) ?_
  refine x_al rfl rfl ?_
  refine x_get rfl (rw_md hn) (by exact rfl) ?_
  refine x_il rfl rfl ?_
  refine x_c rfl ?_
  refine x_call2 (m_markAt (k := 3)) rfl (Nat.le_of_ble_eq_true rfl) (Or.inl (by first | exact hn | assumption)) trivial (Nat.le_of_ble_eq_true rfl) (Nat.le_of_ble_eq_true rfl) (fun E w9 hq => hq.elim) ?_
  rintro v9 w9 ⟨rfl, rfl⟩
  refine x_il rfl rfl ?_
  first | refine x_iasW rfl hn (by omega) ?_ | refine x_iasA rfl hn (by exact rfl) (by omega) ?_
  refine x_al rfl rfl ?_
  refine x_get rfl (rw_md hn) (by exact rfl) ?_
  refine x_il rfl rfl ?_
  refine x_c rfl ?_
  refine x_call2 (m_markAt (k := 4)) rfl (Nat.le_of_ble_eq_true rfl) (Or.inl (by first | exact hn | assumption)) trivial (Nat.le_of_ble_eq_true rfl) (Nat.le_of_ble_eq_true rfl) (fun E w9 hq => hq.elim) ?_
  rintro v9 w9 ⟨rfl, rfl⟩
  refine x_il rfl rfl ?_
  first | refine x_iasW rfl hn (by omega) ?_ | refine x_iasA rfl hn (by exact rfl) (by omega) ?_
  refine x_al rfl rfl ?_
  refine x_get rfl (rw_md hn) (by exact rfl) ?_
  refine x_il rfl rfl ?_
  refine x_c rfl ?_
  refine x_call2 (m_markAt (k := 5)) rfl (Nat.le_of_ble_eq_true rfl) (Or.inl (by first | exact hn | assumption)) trivial (Nat.le_of_ble_eq_true rfl) (Nat.le_of_ble_eq_true rfl) (fun E w9 hq => hq.elim) ?_
  rintro v9 w9 ⟨rfl, rfl⟩
  refine x_il rfl rfl ?_
  cases gr with
  | true =>
    refine x_ifeq rfl (fun c => absurd c (show ¬ (1 : Int32) = 0 by decide)) (fun c => ?_)
    refine x_c rfl ?_
    refine x_go rfl ?_
    first | refine x_iasW rfl hn (by omega) ?_ | refine x_iasA rfl hn (by exact rfl) (by omega) ?_
    refine x_il rfl rfl ?_
    refine x_reti rfl (Nat.le_of_ble_eq_true rfl) (Nat.le_of_ble_eq_true rfl) rfl ?_
    exact opq_s
  | false =>
    refine x_ifeq rfl (fun c => ?_) (fun c => absurd rfl c)
    refine x_c rfl ?_
    first | refine x_iasW rfl hn (by omega) ?_ | refine x_iasA rfl hn (by exact rfl) (by omega) ?_
    refine x_il rfl rfl ?_
    refine x_reti rfl (Nat.le_of_ble_eq_true rfl) (Nat.le_of_ble_eq_true rfl) rfl ?_
    exact opq_s
theorem r_card {x : Int32} {nc : Nat} (hc : f 6606 = nI nc) (h16 : nc ≤ 16) (hn : w.1 = N0) : Ev g (d + 2) 236 [.ref 1424, .int x] (rW w m f A B) (OpQ w m (if okN x 10000 = true ∧ ¬ nc = 16 then cardF f nc x else f) A (some (.int (if okN x 10000 = true ∧ ¬ nc = 16 then nI nc else 0))) (if okN x 10000 = true then (if nc = 16 then 2 else 0) else 1)) noX := by
  generalize hF : (if okN x 10000 = true ∧ ¬ nc = 16 then cardF f nc x else f) = F
  generalize hR : (if okN x 10000 = true ∧ ¬ nc = 16 then nI nc else 0) = R
  generalize hT : (if okN x 10000 = true then (if nc = 16 then (2 : Int32) else 0) else 1) = T
  refine ev_X11_card ?_ (Nat.le_of_ble_eq_true rfl)
  refine x_lo (lo' := [some (.ref 1424), some (.int x), none, none]) rfl ?_
  refine x_al rfl rfl ?_
  refine x_c rfl ?_
  refine x_putM rfl hn rfl rfl rfl (mset_0 _ _) ?_
  refine x_al rfl rfl ?_
  refine x_il rfl rfl ?_
  refine x_c rfl ?_
  refine x_c rfl ?_
  refine x_call3 (n_inN (n := 10000) 9999 (by decide) (by decide)) rfl (Nat.le_of_ble_eq_true rfl) (Or.inl (by first | exact hn | assumption)) trivial (Nat.le_of_ble_eq_true rfl) (Nat.le_of_ble_eq_true rfl) (fun E w9 hq => hq.elim) ?_
  rintro v9 w9 ⟨rfl, rfl⟩
  cases hb : okN x 10000 with
  | false =>
    rw [hb] at hF hR hT
    rw [if_neg (fun q => absurd q.1 (by decide))] at hF hR
    rw [if_neg (by decide)] at hT
    subst hF; subst hR; subst hT
    refine x_ifne rfl (fun c => absurd rfl c) (fun c => ?_)
    refine x_c rfl ?_
    refine x_go rfl ?_
    refine x_c rfl ?_
    refine x_call3 (n_throwsIf (b := true) hn) rfl (Nat.le_of_ble_eq_true rfl) (Or.inl (by first | exact hn | assumption)) (rcv_at (by first | exact rw_md hn | exact rw_w hn | exact rw_A hn (by exact rfl) | exact rw_B2 hn | exact rw_B3 hn | assumption) (by decide) (by decide)) (Nat.le_of_ble_eq_true rfl) (Nat.le_of_ble_eq_true rfl) (fun E w9 hq => hq.elim) ?_
    rintro v9 w9 ⟨rfl, rfl⟩
    refine x_ifne rfl (fun c => ?_) (fun c => absurd c (show ¬ (1 : Int32) = 0 by decide))
    refine x_c rfl ?_
    refine x_reti rfl (Nat.le_of_ble_eq_true rfl) (Nat.le_of_ble_eq_true rfl) rfl ?_
    exact opq_t
  | true =>
    rw [hb] at hF hR hT
    rw [if_pos rfl] at hT
    refine x_ifne rfl (fun c => ?_) (fun c => absurd c (show ¬ (1 : Int32) = 0 by decide))
    refine x_c rfl ?_
    refine x_c rfl ?_
    refine x_call3 (n_throwsIf (b := false) hn) rfl (Nat.le_of_ble_eq_true rfl) (Or.inl (by first | exact hn | assumption)) (rcv_at (by first | exact rw_md hn | exact rw_w hn | exact rw_A hn (by exact rfl) | exact rw_B2 hn | exact rw_B3 hn | assumption) (by decide) (by decide)) (Nat.le_of_ble_eq_true rfl) (Nat.le_of_ble_eq_true rfl) (fun E w9 hq => hq.elim) ?_
    rintro v9 w9 ⟨rfl, rfl⟩
    refine x_ifne rfl (fun c => absurd rfl c) (fun c => ?_)
    refine x_al rfl rfl ?_
    refine x_al rfl rfl ?_
    refine x_get rfl (rw_md hn) (by exact rfl) ?_
    refine x_c rfl ?_
    refine x_iaN (j := 6606) rfl (by first | exact rw_md hn | exact rw_w hn | exact rw_A hn (by exact rfl) | exact rw_B2 hn | exact rw_B3 hn | assumption) (by omega) ?_
    rw [hc]
    refine x_c rfl ?_
    refine x_icneN (y := 16) rfl (by omega) (fun c7 => ?_) (fun c7 => ?_)
    rotate_left
    · refine x_c rfl ?_
      refine x_go rfl ?_
      rw [if_neg (fun q => q.2 c7)] at hF hR
      rw [if_pos c7] at hT
      subst hF; subst hR; subst hT
      refine x_c rfl ?_
      refine x_call3 (n_throwsIf (b := true) hn) rfl (Nat.le_of_ble_eq_true rfl) (Or.inl (by first | exact hn | assumption)) (rcv_at (by first | exact rw_md hn | exact rw_w hn | exact rw_A hn (by exact rfl) | exact rw_B2 hn | exact rw_B3 hn | assumption) (by decide) (by decide)) (Nat.le_of_ble_eq_true rfl) (Nat.le_of_ble_eq_true rfl) (fun E w9 hq => hq.elim) ?_
      rintro v9 w9 ⟨rfl, rfl⟩
      refine x_ifeq rfl (fun c => absurd c (show ¬ (1 : Int32) = 0 by decide)) (fun c => ?_)
      refine x_c rfl ?_
      refine x_reti rfl (Nat.le_of_ble_eq_true rfl) (Nat.le_of_ble_eq_true rfl) rfl ?_
      exact opq_t
    refine x_c rfl ?_
    rw [if_pos ⟨rfl, c7⟩] at hF hR
    rw [if_neg c7] at hT
    subst hF; subst hR; subst hT
    refine x_c rfl ?_
    refine x_call3 (n_throwsIf (b := false) hn) rfl (Nat.le_of_ble_eq_true rfl) (Or.inl (by first | exact hn | assumption)) (rcv_at (by first | exact rw_md hn | exact rw_w hn | exact rw_A hn (by exact rfl) | exact rw_B2 hn | exact rw_B3 hn | assumption) (by decide) (by decide)) (Nat.le_of_ble_eq_true rfl) (Nat.le_of_ble_eq_true rfl) (fun E w9 hq => hq.elim) ?_
    rintro v9 w9 ⟨rfl, rfl⟩
    refine x_ifeq rfl (fun c => ?_) (fun c => absurd rfl c)
    refine x_al rfl rfl ?_
    refine x_get rfl (rw_md hn) (by exact rfl) ?_
    refine x_c rfl ?_
    refine x_iaN (j := 6606) rfl (by first | exact rw_md hn | exact rw_w hn | exact rw_A hn (by exact rfl) | exact rw_B2 hn | exact rw_B3 hn | assumption) (by omega) ?_
    rw [hc]
    refine x_is (lo' := [_, _, _, _]) rfl (Nat.le_of_ble_eq_true rfl) rfl ?_
    refine x_al rfl rfl ?_
    refine x_get rfl (rw_md hn) (by exact rfl) ?_
    refine x_c rfl ?_
    refine x_dup2 rfl rfl rfl ?_
    refine x_iaN (j := 6606) rfl (by first | exact rw_md hn | exact rw_w hn | exact rw_A hn (by exact rfl) | exact rw_B2 hn | exact rw_B3 hn | assumption) (by omega) ?_
    rw [hc]
    refine x_c rfl ?_
    refine x_addN (y := 1) rfl ?_
    first | refine x_iasW (j := 6606) rfl hn (by omega) ?_ | refine x_iasA (j := 6606) rfl hn (by exact rfl) (by omega) ?_
    refine x_c rfl ?_
    refine x_is (lo' := [_, _, _, _]) rfl (Nat.le_of_ble_eq_true rfl) rfl ?_
    have loop : ∀ k, k ≤ 26 → EX g mbOf (Ev g (d + 1)) (infoOf 236) k_X11_card (OpQ w m (cardF f nc x) A (some (.int (nI nc))) 0) noX w.1 (rW w (upd m 0 0) (blankC nc (upd f 6606 (nI (nc + 1))) k) A B) 0 0 45 [some (.ref 1424), some (.int x), some (.int (nI nc)), some (.int (nI k))] [] := by
      refine downN 26 fun k hk ih => ?_
      refine x_il rfl rfl ?_
      refine x_c rfl ?_
      refine x_icgeN (y := 26) rfl (by omega) (fun c0 => ?_) (fun c0 => ?_)
      · refine x_al rfl rfl ?_
        refine x_get rfl (rw_md hn) (by exact rfl) ?_
        refine x_il rfl rfl ?_
        refine x_c rfl ?_
        obtain rfl : k = 26 := by omega
        refine x_call2 (m_cardAt (k := 0)) rfl (Nat.le_of_ble_eq_true rfl) (Or.inl (by first | exact hn | assumption)) trivial (Nat.le_of_ble_eq_true rfl) (Nat.le_of_ble_eq_true rfl) (fun E w9 hq => hq.elim) ?_
        rintro v9 w9 ⟨rfl, rfl⟩
        refine x_il rfl rfl ?_
        first | refine x_iasW rfl hn (by omega) ?_ | refine x_iasA rfl hn (by exact rfl) (by omega) ?_
        refine x_al rfl rfl ?_
        refine x_get rfl (rw_md hn) (by exact rfl) ?_
        refine x_il rfl rfl ?_
        refine x_c rfl ?_
        refine x_call2 (m_cardAt (k := 1)) rfl (Nat.le_of_ble_eq_true rfl) (Or.inl (by first | exact hn | assumption)) trivial (Nat.le_of_ble_eq_true rfl) (Nat.le_of_ble_eq_true rfl) (fun E w9 hq => hq.elim) ?_
        rintro v9 w9 ⟨rfl, rfl⟩
        refine x_al rfl rfl ?_
        refine x_call1 (n_today hn) rfl (Nat.le_of_ble_eq_true rfl) (Or.inl (by first | exact hn | assumption)) (rcv_at (by first | exact rw_md hn | exact rw_w hn | exact rw_A hn (by exact rfl) | exact rw_B2 hn | exact rw_B3 hn | assumption) (by decide) (by decide)) (Nat.le_of_ble_eq_true rfl) (Nat.le_of_ble_eq_true rfl) (fun E w9 hq => hq.elim) ?_
        rintro v9 w9 ⟨rfl, rfl⟩
        refine x_eq (y := f 0) ?_ ?_
        · rw [pk_un (by omega), blankC_o (by omega), pk_un (by omega)]
        first | refine x_iasW rfl hn (by omega) ?_ | refine x_iasA rfl hn (by exact rfl) (by omega) ?_
        refine x_il rfl rfl ?_
        refine x_reti rfl (Nat.le_of_ble_eq_true rfl) (Nat.le_of_ble_eq_true rfl) rfl ?_
        exact opq_s
      refine x_al rfl rfl ?_
      refine x_get rfl (rw_md hn) (by exact rfl) ?_
      refine x_il rfl rfl ?_
      refine x_il rfl rfl ?_
      refine x_call2 (m_cardAt) rfl (Nat.le_of_ble_eq_true rfl) (Or.inl (by first | exact hn | assumption)) trivial (Nat.le_of_ble_eq_true rfl) (Nat.le_of_ble_eq_true rfl) (fun E w9 hq => hq.elim) ?_
      rintro v9 w9 ⟨rfl, rfl⟩
      refine x_c rfl ?_
      first | refine x_iasW rfl hn (by omega) ?_ | refine x_iasA rfl hn (by exact rfl) (by omega) ?_
      refine x_inc1 (lo' := [_, _, _, _]) rfl rfl rfl ?_
      refine x_go rfl ?_
      exact ih c0
    exact loop 0 (by decide)
end CALLS
