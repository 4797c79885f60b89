/-! desks -/
abbrev dkT : Type := (Nat → Int32) × Nat
def dkP (n k : Nat) : Nat → dkT → dkT ⊕ dkT := fun x s => if s.2 = 0 then .inr s else if wtP s.1 k x then .inl (cmpF s.1 n k x, s.2 - 1) else .inl s
def dkK (n nc k : Nat) (x : Nat) (s : dkT) : dkT := it (10 * nc) (dkP n k) id x s
def dkM (n nc ns : Nat) (gr : Int32) (s0 : dkT) : Nat → dkT := acc (fun k s => if ¬ s.1 (5826 + 39 * k + 5) = gr ∨ s.2 = 0 ∨ ¬ cn (setB s.1 n ns k) (10 * nc) = 0 then s else dkK n nc k 0 s) s0
/-- the day's work of the desk -/
def desksF (f : Nat → Int32) (n nc nm ns : Nat) : Nat → Int32 := (dkM n nc ns 0 (dkM n nc ns 1 (f, cN (f 2)) nm) nm).1
section DESKS
variable {g : aG} {d : Nat} {w : aW} {m f : Nat → Int32} {A : Nat → Nat → Int32} {B : Nat → Nat → Int64}
theorem n_desks {n nc nm ns : Nat} (hD : DI f n nc nm ns) (h2 : f 2 = nI (cN (f 2))) (h60 : cN (f 2) ≤ 60) (hn : w.1 = N0) : Ev g (d + 17) 286 [.ref 1424] (rW w m f A B) (fun v w' => v = none ∧ ∃ m' A', w' = rW w m' (desksF f n nc nm ns) A' B ∧ keepS m m' ∧ keepB A A' ∧ DI (desksF f n nc nm ns) n nc nm ns ∧ agD f (desksF f n nc nm ns)) noX := by
  have hnc := hD.2.2.1.2.1
  have kloop : ∀ (P : Nat → Int32) (gr : Int32) k, k < nm → ∀ R : dkT, (∀ m' A' l4, keepS m m' → keepB A A' → DI R.1 n nc nm ns → agD f R.1 → R.2 ≤ 60 → EX g mbOf (Ev g (d + 16)) (infoOf 286) k_X11_desks (fun v w' => v = none ∧ ∃ m' A', w' = rW w m' P A' B ∧ keepS m m' ∧ keepB A A' ∧ DI P n nc nm ns ∧ agD f P) noX w.1 (rW w m' R.1 A' B) 0 0 57 [some (.ref 1424), some (.int (nI R.2)), some (.int gr), some (.int (nI k)), l4] []) → ∀ x, x ≤ 10 * nc → ∀ f1 left m' A', keepS m m' → keepB A A' → DI f1 n nc nm ns → agD f f1 → left ≤ 60 → dkK n nc k x (f1, left) = R → EX g mbOf (Ev g (d + 16)) (infoOf 286) k_X11_desks (fun v w' => v = none ∧ ∃ m' A', w' = rW w m' P A' B ∧ keepS m m' ∧ keepB A A' ∧ DI P n nc nm ns ∧ agD f P) noX w.1 (rW w m' f1 A' B) 0 0 34 [some (.ref 1424), some (.int (nI left)), some (.int gr), some (.int (nI k)), some (.int (nI x))] [] := by
    intro P gr k hk R cont
    refine downN (10 * nc) fun x hx ih => ?_
    intro f1 left m' A' hk1 hA hD1 hag hl hR
    have hk20 : k < 20 := by have := hD1.2.2.2.2.1; omega
    refine x_il rfl rfl ?_
    refine x_c rfl ?_
    refine x_al rfl rfl ?_
    refine x_get rfl (rw_md hn) (by exact rfl) ?_
    refine x_c rfl ?_
    refine x_iaN (j := 6606) rfl (by first | exact rw_md hn | exact rw_w hn | exact rw_A hn (by exact rfl) | exact rw_B2 hn | exact rw_B3 hn | assumption) (by omega) ?_
    rw [hD1.2.2.1.1]
    refine x_mulN (x := 10) rfl ?_
    refine x_icgeN rfl (by omega) (fun c0 => ?_) (fun c0 => ?_)
    · skip
      unfold dkK at hR
      rw [it_end (by omega)] at hR
      subst hR
      exact cont _ _ _ hk1 hA hD1 hag hl
    refine x_il rfl rfl ?_
    unfold dkK at hR ih
    by_cases hz : left = 0
    · subst hz
      rw [it_ret (by omega) (r := (f1, 0)) (if_pos rfl)] at hR
      subst hR
      refine x_ifle rfl (fun c => ?_) (fun c => absurd (show (0 : Int32) ≤ 0 by decide) c)
      exact cont _ _ _ hk1 hA hD1 hag (by omega)
    refine x_ifle rfl (fun c => absurd c (nI_nle (by omega) (by omega))) (fun c => ?_)
    refine x_al rfl rfl ?_
    refine x_il rfl rfl ?_
    refine x_il rfl rfl ?_
    refine x_call3 (n_isWaiting hk20 (by omega) hn) rfl (Nat.le_of_ble_eq_true rfl) (Or.inl (by first | exact hn | assumption)) (rcv_at (by first | exact rw_md hn | exact rw_w hn | exact rw_A hn (by exact rfl) | exact rw_B2 hn | exact rw_B3 hn | assumption) (by decide) (by decide)) (Nat.le_of_ble_eq_true rfl) (Nat.le_of_ble_eq_true rfl) (fun E w9 hq => hq.elim) ?_
    rintro v9 w9 ⟨rfl, rfl⟩
    refine x_ifneB rfl (fun c1 => ?_) (fun c1 => ?_)
    rotate_left
    · refine x_go rfl ?_
      rw [it_go (by omega) (s' := (f1, left)) (by unfold dkP; rw [if_neg hz, if_neg c1])] at hR
      refine x_inc1 (lo' := [_, _, _, _, _]) rfl rfl rfl ?_
      refine x_go rfl ?_
      exact ih (by omega) _ _ _ _ hk1 hA hD1 hag hl hR
    refine x_al rfl rfl ?_
    refine x_il rfl rfl ?_
    refine x_il rfl rfl ?_
    rw [it_go (by omega) (s' := (cmpF f1 n k x, left - 1)) (by unfold dkP; rw [if_neg hz, if_pos c1])] at hR
    refine x_call3 (n_compares hD1 hk20 (by omega) c1.2.1 hn) rfl (Nat.le_of_ble_eq_true rfl) (Or.inl (by first | exact hn | assumption)) (rcv_at (by first | exact rw_md hn | exact rw_w hn | exact rw_A hn (by exact rfl) | exact rw_B2 hn | exact rw_B3 hn | assumption) (by decide) (by decide)) (Nat.le_of_ble_eq_true rfl) (Nat.le_of_ble_eq_true rfl) (fun E w9 hq => hq.elim) ?_
    rintro v9 w9 ⟨rfl, M', A2, rfl, hk2, hA2⟩
    refine x_inc (lo' := [_, _, _, _, _]) rfl rfl rfl ?_
    have ha := cmp_ag (n := n) hk20 (show x < 160 by omega) (hD1.2.2.1.2.2 _ (show x / 10 < nc by omega) _ (Nat.mod_lt _ (by decide))) c1.2.1 hD1.2.2.2.2.2.2.2
    obtain ⟨l, rfl⟩ : ∃ l, left = l + 1 := ⟨left - 1, by omega⟩
    rw [show nI (l + 1) + -1 = nI l from pk_m1 l]
    refine x_inc1 (lo' := [_, _, _, _, _]) rfl rfl rfl ?_
    refine x_go rfl ?_
    exact ih (by omega) _ _ _ _ (keepS_t hk1 hk2) (keepB_t hA hA2) (DI_c ha.1 ha.2 hD1) (agD_t hag ha.1) (by omega) hR
  have mloop : ∀ (P : Nat → Int32) (gr : Int32) (s0 : dkT), (∀ m' A' l3 l4, keepS m m' → keepB A A' → DI (dkM n nc ns gr s0 nm).1 n nc nm ns → agD f (dkM n nc ns gr s0 nm).1 → (dkM n nc ns gr s0 nm).2 ≤ 60 → EX g mbOf (Ev g (d + 16)) (infoOf 286) k_X11_desks (fun v w' => v = none ∧ ∃ m' A', w' = rW w m' P A' B ∧ keepS m m' ∧ keepB A A' ∧ DI P n nc nm ns ∧ agD f P) noX w.1 (rW w m' (dkM n nc ns gr s0 nm).1 A' B) 0 0 59 [some (.ref 1424), some (.int (nI (dkM n nc ns gr s0 nm).2)), some (.int gr), l3, l4] []) → ∀ k, k ≤ nm → ∀ m' A' l4, keepS m m' → keepB A A' → DI (dkM n nc ns gr s0 k).1 n nc nm ns → agD f (dkM n nc ns gr s0 k).1 → (dkM n nc ns gr s0 k).2 ≤ 60 → EX g mbOf (Ev g (d + 16)) (infoOf 286) k_X11_desks (fun v w' => v = none ∧ ∃ m' A', w' = rW w m' P A' B ∧ keepS m m' ∧ keepB A A' ∧ DI P n nc nm ns ∧ agD f P) noX w.1 (rW w m' (dkM n nc ns gr s0 k).1 A' B) 0 0 11 [some (.ref 1424), some (.int (nI (dkM n nc ns gr s0 k).2)), some (.int gr), some (.int (nI k)), l4] [] := by
    intro P gr s0 cont
    refine downN nm fun k hkm ih => ?_
    intro m' A' l4 hk1 hA hD1 hag hl
    have hnm := hD.2.2.2.2.1
    refine x_il rfl rfl ?_
    refine x_al rfl rfl ?_
    refine x_get rfl (rw_md hn) (by exact rfl) ?_
    refine x_c rfl ?_
    refine x_iaN (j := 5825) rfl (by first | exact rw_md hn | exact rw_w hn | exact rw_A hn (by exact rfl) | exact rw_B2 hn | exact rw_B3 hn | assumption) (by omega) ?_
    rw [hD1.2.2.2.1]
    refine x_icgeN rfl (by omega) (fun c0 => ?_) (fun c0 => ?_)
    · skip
      obtain rfl : k = nm := by omega
      exact cont _ _ _ _ hk1 hA hD1 hag hl
    refine x_al rfl rfl ?_
    refine x_get rfl (rw_md hn) (by exact rfl) ?_
    refine x_il rfl rfl ?_
    refine x_c rfl ?_
    have ih := ih c0
    have hst : dkM n nc ns gr s0 (k + 1) = if ¬ (dkM n nc ns gr s0 k).1 (5826 + 39 * k + 5) = gr ∨ (dkM n nc ns gr s0 k).2 = 0 ∨ ¬ cn (setB (dkM n nc ns gr s0 k).1 n ns k) (10 * nc) = 0 then dkM n nc ns gr s0 k else dkK n nc k 0 (dkM n nc ns gr s0 k) := rfl
    rw [hst] at ih
    generalize dkM n nc ns gr s0 k = s at *
    obtain ⟨f1, left⟩ := s
    dsimp only at ih hD1 hag hl
    have next : ∀ s : dkT, s = (if ¬ f1 (5826 + 39 * k + 5) = gr ∨ left = 0 ∨ ¬ cn (setB f1 n ns k) (10 * nc) = 0 then (f1, left) else dkK n nc k 0 (f1, left)) → ∀ m' A' l4, keepS m m' → keepB A A' → DI s.1 n nc nm ns → agD f s.1 → s.2 ≤ 60 → EX g mbOf (Ev g (d + 16)) (infoOf 286) k_X11_desks (fun v w' => v = none ∧ ∃ m' A', w' = rW w m' P A' B ∧ keepS m m' ∧ keepB A A' ∧ DI P n nc nm ns ∧ agD f P) noX w.1 (rW w m' s.1 A' B) 0 0 57 [some (.ref 1424), some (.int (nI s.2)), some (.int gr), some (.int (nI k)), l4] [] := by
      intro s es m' A' l4 h1 h2 h3 h4 h5
      rw [← es] at ih
      refine x_inc1 (lo' := [_, _, _, _, _]) rfl rfl rfl ?_
      refine x_go rfl ?_
      exact ih _ _ _ h1 h2 h3 h4 h5
    refine x_call2 (m_markAt (k := 5)) rfl (Nat.le_of_ble_eq_true rfl) (Or.inl (by first | exact hn | assumption)) trivial (Nat.le_of_ble_eq_true rfl) (Nat.le_of_ble_eq_true rfl) (fun E w9 hq => hq.elim) ?_
    rintro v9 w9 ⟨rfl, rfl⟩
    refine x_iaN rfl (by first | exact rw_md hn | exact rw_w hn | exact rw_A hn (by exact rfl) | exact rw_B2 hn | exact rw_B3 hn | assumption) (by omega) ?_
    refine x_il rfl rfl ?_
    refine x_icne rfl (fun c1 => ?_) (fun c1 => ?_)
    · skip
      exact next (f1, left) (by rw [if_pos (Or.inl c1)]) _ _ _ hk1 hA hD1 hag hl
    refine x_il rfl rfl ?_
    refine x_ifeqN rfl (by omega) (fun c2 => ?_) (fun c2 => ?_)
    · skip
      exact next (f1, left) (by rw [if_pos (Or.inr (Or.inl c2))]) _ _ _ hk1 hA hD1 hag hl
    refine x_al rfl rfl ?_
    refine x_il rfl rfl ?_
    refine x_call2 (n_isSettled hD1 (by omega) hn) rfl (Nat.le_of_ble_eq_true rfl) (Or.inl (by first | exact hn | assumption)) (rcv_at (by first | exact rw_md hn | exact rw_w hn | exact rw_A hn (by exact rfl) | exact rw_B2 hn | exact rw_B3 hn | assumption) (by decide) (by decide)) (Nat.le_of_ble_eq_true rfl) (Nat.le_of_ble_eq_true rfl) (fun E w9 hq => hq.elim) ?_
    rintro v9 w9 ⟨M', A2, rfl, hk2, hA2, rfl⟩
    refine x_ifeqB rfl (fun c3 => ?_) (fun c3 => ?_)
    rotate_left
    · refine x_go rfl ?_
      exact next (f1, left) (by rw [if_pos (Or.inr (Or.inr c3))]) _ _ _ (keepS_t hk1 hk2) (keepB_t hA hA2) hD1 hag hl
    refine x_c rfl ?_
    refine x_is (lo' := [_, _, _, _, _]) rfl (Nat.le_of_ble_eq_true rfl) rfl ?_
    have hif : (if ¬ f1 (5826 + 39 * k + 5) = gr ∨ left = 0 ∨ ¬ cn (setB f1 n ns k) (10 * nc) = 0 then (f1, left) else dkK n nc k 0 (f1, left)) = dkK n nc k 0 (f1, left) := if_neg (fun h => h.elim (fun h => h c1) (fun h => h.elim c2 c3))
    exact kloop P gr k c0 _ (next _ hif.symm) 0 (Nat.zero_le _) f1 left _ _ (keepS_t hk1 hk2) (keepB_t hA hA2) hD1 hag hl rfl
  refine ev_X11_desks ?_ (Nat.le_of_ble_eq_true rfl)
  refine x_lo (lo' := [some (.ref 1424), none, none, none, none]) rfl ?_
  refine x_al rfl rfl ?_
  refine x_get rfl (rw_md hn) (by exact rfl) ?_
  refine x_c rfl ?_
  refine x_iaN (j := 2) rfl (by first | exact rw_md hn | exact rw_w hn | exact rw_A hn (by exact rfl) | exact rw_B2 hn | exact rw_B3 hn | assumption) (by omega) ?_
  rw [h2]
  refine x_is (lo' := [_, _, _, _, _]) rfl (Nat.le_of_ble_eq_true rfl) rfl ?_
  refine x_c rfl ?_
  refine x_is (lo' := [_, _, _, _, _]) rfl (Nat.le_of_ble_eq_true rfl) rfl ?_
  refine x_il rfl rfl ?_
  refine x_iflt rfl (fun c => absurd c (by decide)) (fun c => ?_)
  refine x_c rfl ?_
  refine x_is (lo' := [_, _, _, _, _]) rfl (Nat.le_of_ble_eq_true rfl) rfl ?_
  refine mloop (desksF f n nc nm ns) 1 (f, cN (f 2)) (fun m' A' l3 l4 k1 k2 k3 k4 k5 => ?_) 0 (Nat.zero_le _) _ _ _ keepS_r keepB_r hD (fun _ _ => rfl) h60
  refine x_inc (lo' := [_, _, _, _, _]) rfl rfl rfl ?_
  refine x_go rfl ?_
  rw [show (1 : Int32) + -1 = 0 by decide]
  refine x_il rfl rfl ?_
  refine x_iflt rfl (fun c => absurd c (by decide)) (fun c => ?_)
  refine x_c rfl ?_
  refine x_is (lo' := [_, _, _, _, _]) rfl (Nat.le_of_ble_eq_true rfl) rfl ?_
  refine mloop (desksF f n nc nm ns) 0 (dkM n nc ns 1 (f, cN (f 2)) nm) (fun m' A' l3 l4 k1 k2 k3 k4 k5 => ?_) 0 (Nat.zero_le _) _ _ _ k1 k2 k3 k4 k5
  refine x_inc (lo' := [_, _, _, _, _]) rfl rfl rfl ?_
  refine x_go rfl ?_
  rw [show (0 : Int32) + -1 = -1 by decide]
  refine x_il rfl rfl ?_
  refine x_iflt rfl (fun c => ?_) (fun c => absurd (show (-1 : Int32) < 0 by decide) c)
  refine x_retv rfl (Nat.le_of_ble_eq_true rfl) (Nat.le_of_ble_eq_true rfl) rfl ?_
  exact ⟨rfl, _, _, rfl, k1, k2, k3, k4⟩
end DESKS
