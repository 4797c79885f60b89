/-! fingers, doubts, sayings; mset_ -/
abbrev fgP (x y z : Int32) (nc np : Nat) : Prop := okN x nc = true ∧ okN y 10 = true ∧ (z = -1 ∨ okN z np = true)
def othN (f : Nat → Int32) (c j : Nat) : Nat → Nat := cn (fun i => decide (i ≠ j ∧ 0 ≤ f (6607 + 26 * c + (16 + i))))
def sayW (f : Nat → Int32) (s : Nat) (e k c j v : Int32) : Nat → Int32 := upd (upd (upd (upd (upd (upd (upd f (10224 + 6 * s) e) (10224 + 6 * s + 1) k) (10224 + 6 * s + 2) c) (10224 + 6 * s + 3) j) (10224 + 6 * s + 4) v) (10224 + 6 * s + 5) (f 0)) 10223 (nI (s + 1))
abbrev syP (e k c j : Int32) (nm nc : Nat) : Prop := okN e 6 = true ∧ okN k nm = true ∧ okN c nc = true ∧ okN j 10 = true
section CALLS
variable {g : aG} {d : Nat} {w : aW} {m f : Nat → Int32} {A : Nat → Nat → Int32} {B : Nat → Nat → Int64}
theorem r_finger {x y z : Int32} {nc np : Nat} (hc : f 6606 = nI nc) (h16 : nc ≤ 16) (hp4 : f 4 = nI np) (h60 : np ≤ 60) (hn : w.1 = N0) : Ev g (d + 3) 238 [.ref 1424, .int x, .int y, .int z] (rW w m f A B) (OpQ w m (if fgP x y z nc np ∧ ¬ f (6607 + 26 * cN x + (6 + cN y)) = z then fingF f (cN x) (cN y) z else f) A (some (.int (bI (decide (fgP x y z nc np ∧ ¬ f (6607 + 26 * cN x + (6 + cN y)) = z))))) (if fgP x y z nc np then 0 else 1)) noX := by
  generalize hR : decide (fgP x y z nc np ∧ ¬ f (6607 + 26 * cN x + (6 + cN y)) = z) = R
  generalize hF : (if fgP x y z nc np ∧ ¬ f (6607 + 26 * cN x + (6 + cN y)) = z then fingF f (cN x) (cN y) z else f) = F
  generalize hT : (if fgP x y z nc np then (0 : Int32) else 1) = T
  have bad : ¬ fgP x y z nc np → EX g mbOf (Ev g (d + 2)) (infoOf 238) k_X11_finger (OpQ w m F A (some (.int (bI R))) T) noX w.1 (rW w (upd m 0 0) f A B) 0 0 18 [some (.ref 1424), some (.int x), some (.int y), some (.int z), none] [.ref 1424] := by
    intro h
    rw [decide_eq_false (fun q => h q.1)] at hR
    rw [if_neg (fun q => h q.1)] at hF
    rw [if_neg h] at hT
    subst hF; subst hR; subst hT
    refine x_c rfl ?_
    refine x_go rfl ?_
    refine x_c rfl ?_
    refine x_call3 (n_throwsIf (b := true) hn) rfl (Nat.le_of_ble_eq_true rfl) (Or.inl (by first | exact hn | assumption)) (rcv_at (by first | exact rw_md hn | exact rw_w hn | exact rw_A hn (by exact rfl) | exact rw_B2 hn | exact rw_B3 hn | assumption) (by decide) (by decide)) (Nat.le_of_ble_eq_true rfl) (Nat.le_of_ble_eq_true rfl) (fun E w9 hq => hq.elim) ?_
    rintro v9 w9 ⟨rfl, rfl⟩
    refine x_ifne rfl (fun c => ?_) (fun c => absurd c (show ¬ (1 : Int32) = 0 by decide))
    refine x_c rfl ?_
    refine x_retz rfl (Nat.le_of_ble_eq_true rfl) (Nat.le_of_ble_eq_true rfl) rfl (by first | rfl | assumption) ?_
    exact opq_t
  refine ev_X11_finger ?_ (Nat.le_of_ble_eq_true rfl)
  refine x_lo (lo' := [some (.ref 1424), some (.int x), some (.int y), some (.int z), none]) rfl ?_
  refine x_al rfl rfl ?_
  refine x_c rfl ?_
  refine x_putM rfl hn rfl rfl rfl (mset_0 _ _) ?_
  refine x_al rfl rfl ?_
  refine x_al rfl rfl ?_
  refine x_il rfl rfl ?_
  refine x_call2 (n_noCard hc (by omega) hn) rfl (Nat.le_of_ble_eq_true rfl) (Or.inl (by first | exact hn | assumption)) (rcv_at (by first | exact rw_md hn | exact rw_w hn | exact rw_A hn (by exact rfl) | exact rw_B2 hn | exact rw_B3 hn | assumption) (by decide) (by decide)) (Nat.le_of_ble_eq_true rfl) (Nat.le_of_ble_eq_true rfl) (fun E w9 hq => hq.elim) ?_
  rintro v9 w9 ⟨rfl, rfl⟩
  cases hb : okN x nc with
  | false =>
    refine x_ifne rfl (fun c => ?_) (fun c => absurd c (show ¬ (1 : Int32) = 0 by decide))
    exact bad (fun q => by have h1 := q.1; rw [hb] at h1; exact absurd h1 (by decide))
  | true =>
    obtain ⟨p, hp, ep, hcn⟩ := ok_of hb (by omega)
    refine x_ifne rfl (fun c => absurd rfl c) (fun c => ?_)
    refine x_il rfl rfl ?_
    refine x_call1 (n_noFinger hn) rfl (Nat.le_of_ble_eq_true rfl) (Or.inl (by first | exact hn | assumption)) trivial (Nat.le_of_ble_eq_true rfl) (Nat.le_of_ble_eq_true rfl) (fun E w9 hq => hq.elim) ?_
    rintro v9 w9 ⟨rfl, rfl⟩
    cases hb2 : okN y 10 with
    | false =>
      refine x_ifne rfl (fun c => ?_) (fun c => absurd c (show ¬ (1 : Int32) = 0 by decide))
      exact bad (fun q => by have h1 := q.2.1; rw [hb2] at h1; exact absurd h1 (by decide))
    | true =>
      obtain ⟨q, hq, eq, hcn2⟩ := ok_of hb2 (by omega)
      refine x_ifne rfl (fun c => absurd rfl c) (fun c => ?_)
      refine x_il rfl rfl ?_
      refine x_c rfl ?_
      have good : fgP x y z nc np → EX g mbOf (Ev g (d + 2)) (infoOf 238) k_X11_finger (OpQ w m F A (some (.int (bI R))) T) noX w.1 (rW w (upd m 0 0) f A B) 0 0 20 [some (.ref 1424), some (.int x), some (.int y), some (.int z), none] [.ref 1424] := by
        intro h
        rw [if_pos h] at hT
        rw [hcn, hcn2] at hR hF
        subst ep; subst eq; subst hT
        refine x_c rfl ?_
        refine x_c rfl ?_
        refine x_call3 (n_throwsIf (b := false) hn) rfl (Nat.le_of_ble_eq_true rfl) (Or.inl (by first | exact hn | assumption)) (rcv_at (by first | exact rw_md hn | exact rw_w hn | exact rw_A hn (by exact rfl) | exact rw_B2 hn | exact rw_B3 hn | assumption) (by decide) (by decide)) (Nat.le_of_ble_eq_true rfl) (Nat.le_of_ble_eq_true rfl) (fun E w9 hq => hq.elim) ?_
        rintro v9 w9 ⟨rfl, rfl⟩
        refine x_ifne rfl (fun c => absurd rfl c) (fun c => ?_)
        refine x_al rfl rfl ?_
        refine x_il rfl rfl ?_
        refine x_c rfl ?_
        refine x_il rfl rfl ?_
        refine x_addN (x := 6) rfl ?_
        refine x_call3 (n_of (by omega) hn) rfl (Nat.le_of_ble_eq_true rfl) (Or.inl (by first | exact hn | assumption)) (rcv_at (by first | exact rw_md hn | exact rw_w hn | exact rw_A hn (by exact rfl) | exact rw_B2 hn | exact rw_B3 hn | assumption) (by decide) (by decide)) (Nat.le_of_ble_eq_true rfl) (Nat.le_of_ble_eq_true rfl) (fun E w9 hq => hq.elim) ?_
        rintro v9 w9 ⟨rfl, rfl⟩
        refine x_il rfl rfl ?_
        refine x_icne rfl (fun c1 => ?_) (fun c1 => ?_)
        rotate_left
        · skip
          rw [decide_eq_false (fun q => q.2 c1)] at hR
          rw [if_neg (fun q => q.2 c1)] at hF
          subst hF; subst hR
          refine x_c rfl ?_
          refine x_retz rfl (Nat.le_of_ble_eq_true rfl) (Nat.le_of_ble_eq_true rfl) rfl (by first | rfl | assumption) ?_
          exact opq_s
        refine x_al rfl rfl ?_
        refine x_get rfl (rw_md hn) (by exact rfl) ?_
        refine x_il rfl rfl ?_
        refine x_c rfl ?_
        refine x_il rfl rfl ?_
        refine x_addN (x := 6) rfl ?_
        rw [decide_eq_true ⟨h, c1⟩] at hR
        rw [if_pos ⟨h, c1⟩] at hF
        subst hF; subst hR
        refine x_call2 (m_cardAt) rfl (Nat.le_of_ble_eq_true rfl) (Or.inl (by first | exact hn | assumption)) trivial (Nat.le_of_ble_eq_true rfl) (Nat.le_of_ble_eq_true rfl) (fun E w9 hq => hq.elim) ?_
        rintro v9 w9 ⟨rfl, rfl⟩
        refine x_il rfl rfl ?_
        first | refine x_iasW rfl hn (by omega) ?_ | refine x_iasA rfl hn (by exact rfl) (by omega) ?_
        refine x_c rfl ?_
        refine x_is (lo' := [_, _, _, _, _]) rfl (Nat.le_of_ble_eq_true rfl) rfl ?_
        have loop : ∀ k, k ≤ 20 → EX g mbOf (Ev g (d + 2)) (infoOf 238) k_X11_finger (OpQ w m (fingF f p q z) A (some (.int (bI true))) 0) noX w.1 (rW w (upd m 0 0) (clrC p q (upd f (6607 + 26 * p + (6 + q)) z) k) A B) 0 0 45 [some (.ref 1424), some (.int (nI p)), some (.int (nI q)), some (.int z), some (.int (nI k))] [] := by
          refine downN 20 fun k hk ih => ?_
          refine x_il rfl rfl ?_
          refine x_c rfl ?_
          refine x_icgeN (y := 20) rfl (by omega) (fun c0 => ?_) (fun c0 => ?_)
          · refine x_c rfl ?_
            refine x_retz rfl (Nat.le_of_ble_eq_true rfl) (Nat.le_of_ble_eq_true rfl) rfl (by first | rfl | assumption) ?_
            obtain rfl : k = 20 := by omega
            exact opq_s
          refine x_al rfl rfl ?_
          refine x_get rfl (rw_md hn) (by exact rfl) ?_
          refine x_il rfl rfl ?_
          refine x_il rfl rfl ?_
          refine x_il rfl rfl ?_
          refine x_call3 (m_comparedAt) rfl (Nat.le_of_ble_eq_true rfl) (Or.inl (by first | exact hn | assumption)) trivial (Nat.le_of_ble_eq_true rfl) (Nat.le_of_ble_eq_true rfl) (fun E w9 hq => hq.elim) ?_
          rintro v9 w9 ⟨rfl, rfl⟩
          refine x_c rfl ?_
          first | refine x_iasW rfl hn (by omega) ?_ | refine x_iasA rfl hn (by exact rfl) (by omega) ?_
          refine x_inc1 (lo' := [_, _, _, _, _]) rfl rfl rfl ?_
          refine x_go rfl ?_
          exact ih c0
        exact loop 0 (by decide)
      refine x_iceq rfl (fun c1 => ?_) (fun c1 => ?_)
      · skip
        exact good ⟨hb, hb2, Or.inl c1⟩
      refine x_al rfl rfl ?_
      refine x_il rfl rfl ?_
      refine x_call2 (n_noPrint hp4 (by omega) hn) rfl (Nat.le_of_ble_eq_true rfl) (Or.inl (by first | exact hn | assumption)) (rcv_at (by first | exact rw_md hn | exact rw_w hn | exact rw_A hn (by exact rfl) | exact rw_B2 hn | exact rw_B3 hn | assumption) (by decide) (by decide)) (Nat.le_of_ble_eq_true rfl) (Nat.le_of_ble_eq_true rfl) (fun E w9 hq => hq.elim) ?_
      rintro v9 w9 ⟨rfl, rfl⟩
      cases hb3 : okN z np with
      | false =>
        refine x_ifeq rfl (fun c => absurd c (show ¬ (1 : Int32) = 0 by decide)) (fun c => ?_)
        exact bad (fun q => q.2.2.elim c1 (fun h => by rw [hb3] at h; exact absurd h (by decide)))
      | true =>
        refine x_ifeq rfl (fun c => ?_) (fun c => absurd rfl c)
        exact good ⟨hb, hb2, Or.inr hb3⟩
theorem r_doubt {x y z : Int32} {nc : Nat} (hc : f 6606 = nI nc) (h16 : nc ≤ 16) (hn : w.1 = N0) : Ev g (d + 3) 239 [.ref 1424, .int x, .int y, .int z] (rW w m f A B) (OpQ w m (if (okN x nc = true ∧ okN y 10 = true) ∧ ((-1 ≤ z ∧ z ≤ 7) ∧ ¬ othN f (cN x) (cN y) 10 = 4) then upd f (6607 + 26 * cN x + (16 + cN y)) z else f) A (some (.int (bI (decide ((okN x nc = true ∧ okN y 10 = true) ∧ ((-1 ≤ z ∧ z ≤ 7) ∧ ¬ othN f (cN x) (cN y) 10 = 4)))))) (if okN x nc = true ∧ okN y 10 = true then (if -1 ≤ z ∧ z ≤ 7 then 0 else 2) else 1)) noX := by
  generalize hR : decide ((okN x nc = true ∧ okN y 10 = true) ∧ ((-1 ≤ z ∧ z ≤ 7) ∧ ¬ othN f (cN x) (cN y) 10 = 4)) = R
  generalize hF : (if (okN x nc = true ∧ okN y 10 = true) ∧ ((-1 ≤ z ∧ z ≤ 7) ∧ ¬ othN f (cN x) (cN y) 10 = 4) then upd f (6607 + 26 * cN x + (16 + cN y)) z else f) = F
  generalize hT : (if okN x nc = true ∧ okN y 10 = true then (if -1 ≤ z ∧ z ≤ 7 then (0 : Int32) else 2) else 1) = T
  have bad : ¬ (okN x nc = true ∧ okN y 10 = true) → EX g mbOf (Ev g (d + 2)) (infoOf 239) k_X11_doubt (OpQ w m F A (some (.int (bI R))) T) noX w.1 (rW w (upd m 0 0) f A B) 0 0 14 [some (.ref 1424), some (.int x), some (.int y), some (.int z), none, none] [.int (bI true), .ref 1424] := by
    intro h
    rw [decide_eq_false (fun q => h q.1)] at hR
    rw [if_neg (fun q => h q.1)] at hF
    rw [if_neg h] at hT
    subst hF; subst hR; subst hT
    refine x_c rfl ?_
    refine x_call3 (n_throwsIf (b := true) hn) rfl (Nat.le_of_ble_eq_true rfl) (Or.inl (by first | exact hn | assumption)) (rcv_at (by first | exact rw_md hn | exact rw_w hn | exact rw_A hn (by exact rfl) | exact rw_B2 hn | exact rw_B3 hn | assumption) (by decide) (by decide)) (Nat.le_of_ble_eq_true rfl) (Nat.le_of_ble_eq_true rfl) (fun E w9 hq => hq.elim) ?_
    rintro v9 w9 ⟨rfl, rfl⟩
    refine x_ifne rfl (fun c => ?_) (fun c => absurd c (show ¬ (1 : Int32) = 0 by decide))
    refine x_c rfl ?_
    refine x_retz rfl (Nat.le_of_ble_eq_true rfl) (Nat.le_of_ble_eq_true rfl) rfl (by first | rfl | assumption) ?_
    exact opq_t
  refine ev_X11_doubt ?_ (Nat.le_of_ble_eq_true rfl)
  refine x_lo (lo' := [some (.ref 1424), some (.int x), some (.int y), some (.int z), none, none]) rfl ?_
  refine x_al rfl rfl ?_
  refine x_c rfl ?_
  refine x_putM rfl hn rfl rfl rfl (mset_0 _ _) ?_
  refine x_al rfl rfl ?_
  refine x_al rfl rfl ?_
  refine x_il rfl rfl ?_
  refine x_call2 (n_noCard hc (by omega) hn) rfl (Nat.le_of_ble_eq_true rfl) (Or.inl (by first | exact hn | assumption)) (rcv_at (by first | exact rw_md hn | exact rw_w hn | exact rw_A hn (by exact rfl) | exact rw_B2 hn | exact rw_B3 hn | assumption) (by decide) (by decide)) (Nat.le_of_ble_eq_true rfl) (Nat.le_of_ble_eq_true rfl) (fun E w9 hq => hq.elim) ?_
  rintro v9 w9 ⟨rfl, rfl⟩
  cases hb : okN x nc with
  | false =>
    refine x_ifne rfl (fun c => ?_) (fun c => absurd c (show ¬ (1 : Int32) = 0 by decide))
    refine x_c rfl ?_
    refine x_go rfl ?_
    exact bad (fun q => by have h1 := q.1; rw [hb] at h1; exact absurd h1 (by decide))
  | true =>
    obtain ⟨p, hp, ep, hcn⟩ := ok_of hb (by omega)
    refine x_ifne rfl (fun c => absurd rfl c) (fun c => ?_)
    refine x_il rfl rfl ?_
    refine x_call1 (n_noFinger hn) rfl (Nat.le_of_ble_eq_true rfl) (Or.inl (by first | exact hn | assumption)) trivial (Nat.le_of_ble_eq_true rfl) (Nat.le_of_ble_eq_true rfl) (fun E w9 hq => hq.elim) ?_
    rintro v9 w9 ⟨rfl, rfl⟩
    cases hb2 : okN y 10 with
    | false =>
      refine x_ifeq rfl (fun c => absurd c (show ¬ (1 : Int32) = 0 by decide)) (fun c => ?_)
      refine x_c rfl ?_
      refine x_go rfl ?_
      exact bad (fun q => by have h1 := q.2; rw [hb2] at h1; exact absurd h1 (by decide))
    | true =>
      obtain ⟨q, hq, eq, hcn2⟩ := ok_of hb2 (by omega)
      have hxy : okN x nc = true ∧ okN y 10 = true := ⟨hb, hb2⟩
      rw [if_pos hxy] at hT
      rw [hcn, hcn2] at hR hF
      subst ep; subst eq
      refine x_ifeq rfl (fun c => ?_) (fun c => absurd rfl c)
      refine x_c rfl ?_
      refine x_c rfl ?_
      refine x_call3 (n_throwsIf (b := false) hn) rfl (Nat.le_of_ble_eq_true rfl) (Or.inl (by first | exact hn | assumption)) (rcv_at (by first | exact rw_md hn | exact rw_w hn | exact rw_A hn (by exact rfl) | exact rw_B2 hn | exact rw_B3 hn | assumption) (by decide) (by decide)) (Nat.le_of_ble_eq_true rfl) (Nat.le_of_ble_eq_true rfl) (fun E w9 hq => hq.elim) ?_
      rintro v9 w9 ⟨rfl, rfl⟩
      refine x_ifne rfl (fun c => absurd rfl c) (fun c => ?_)
      refine x_al rfl rfl ?_
      refine x_il rfl rfl ?_
      refine x_c rfl ?_
      refine x_c rfl ?_
      refine x_call3 (m_in) rfl (Nat.le_of_ble_eq_true rfl) (Or.inl (by first | exact hn | assumption)) trivial (Nat.le_of_ble_eq_true rfl) (Nat.le_of_ble_eq_true rfl) (fun E w9 hq => hq.elim) ?_
      rintro v9 w9 ⟨rfl, rfl⟩
      refine x_ifneB rfl (fun c1 => ?_) (fun c1 => ?_)
      rotate_left
      · refine x_c rfl ?_
        refine x_go rfl ?_
        rw [decide_eq_false (fun q => c1 q.2.1)] at hR
        rw [if_neg (fun q => c1 q.2.1)] at hF
        rw [if_neg c1] at hT
        subst hF; subst hR; subst hT
        refine x_c rfl ?_
        refine x_call3 (n_throwsIf (b := true) hn) rfl (Nat.le_of_ble_eq_true rfl) (Or.inl (by first | exact hn | assumption)) (rcv_at (by first | exact rw_md hn | exact rw_w hn | exact rw_A hn (by exact rfl) | exact rw_B2 hn | exact rw_B3 hn | assumption) (by decide) (by decide)) (Nat.le_of_ble_eq_true rfl) (Nat.le_of_ble_eq_true rfl) (fun E w9 hq => hq.elim) ?_
        rintro v9 w9 ⟨rfl, rfl⟩
        refine x_ifeq rfl (fun c => absurd c (show ¬ (1 : Int32) = 0 by decide)) (fun c => ?_)
        refine x_c rfl ?_
        refine x_retz rfl (Nat.le_of_ble_eq_true rfl) (Nat.le_of_ble_eq_true rfl) rfl (by first | rfl | assumption) ?_
        exact opq_t
      refine x_c rfl ?_
      rw [if_pos c1] at hT
      subst hT
      refine x_c rfl ?_
      refine x_call3 (n_throwsIf (b := false) hn) rfl (Nat.le_of_ble_eq_true rfl) (Or.inl (by first | exact hn | assumption)) (rcv_at (by first | exact rw_md hn | exact rw_w hn | exact rw_A hn (by exact rfl) | exact rw_B2 hn | exact rw_B3 hn | assumption) (by decide) (by decide)) (Nat.le_of_ble_eq_true rfl) (Nat.le_of_ble_eq_true rfl) (fun E w9 hq => hq.elim) ?_
      rintro v9 w9 ⟨rfl, rfl⟩
      refine x_ifeq rfl (fun c => ?_) (fun c => absurd rfl c)
      refine x_c rfl ?_
      refine x_is (lo' := [_, _, _, _, _, _]) rfl (Nat.le_of_ble_eq_true rfl) rfl ?_
      refine x_c rfl ?_
      refine x_is (lo' := [_, _, _, _, _, _]) rfl (Nat.le_of_ble_eq_true rfl) rfl ?_
      have loop : ∀ i, i ≤ 10 → EX g mbOf (Ev g (d + 2)) (infoOf 239) k_X11_doubt (OpQ w m F A (some (.int (bI R))) 0) noX w.1 (rW w (upd m 0 0) f A B) 0 0 35 [some (.ref 1424), some (.int (nI p)), some (.int (nI q)), some (.int z), some (.int (nI (othN f p q i))), some (.int (nI i))] [] := by
        refine downN 10 fun i hi ih => ?_
        have l := cn_le (fun i => decide (i ≠ q ∧ 0 ≤ f (6607 + 26 * p + (16 + i)))) i
        have l : othN f p q i ≤ i := l
        refine x_il rfl rfl ?_
        refine x_c rfl ?_
        refine x_icgeN (y := 10) rfl (by omega) (fun c0 => ?_) (fun c0 => ?_)
        · refine x_il rfl rfl ?_
          refine x_c rfl ?_
          obtain rfl : i = 10 := by omega
          refine x_icneN (y := 4) rfl (by omega) (fun c2 => ?_) (fun c2 => ?_)
          rotate_left
          · refine x_c rfl ?_
            refine x_retz rfl (Nat.le_of_ble_eq_true rfl) (Nat.le_of_ble_eq_true rfl) rfl (by first | rfl | assumption) ?_
            rw [decide_eq_false (fun q => q.2.2 c2)] at hR
            rw [if_neg (fun q => q.2.2 c2)] at hF
            subst hF; subst hR
            exact opq_s
          refine x_al rfl rfl ?_
          refine x_get rfl (rw_md hn) (by exact rfl) ?_
          refine x_il rfl rfl ?_
          refine x_c rfl ?_
          refine x_il rfl rfl ?_
          refine x_addN (x := 16) rfl ?_
          rw [decide_eq_true ⟨hxy, c1, c2⟩] at hR
          rw [if_pos ⟨hxy, c1, c2⟩] at hF
          subst hF; subst hR
          refine x_call2 (m_cardAt) rfl (Nat.le_of_ble_eq_true rfl) (Or.inl (by first | exact hn | assumption)) trivial (Nat.le_of_ble_eq_true rfl) (Nat.le_of_ble_eq_true rfl) (fun E w9 hq => hq.elim) ?_
          rintro v9 w9 ⟨rfl, rfl⟩
          refine x_il rfl rfl ?_
          first | refine x_iasW rfl hn (by omega) ?_ | refine x_iasA rfl hn (by exact rfl) (by omega) ?_
          refine x_c rfl ?_
          refine x_retz rfl (Nat.le_of_ble_eq_true rfl) (Nat.le_of_ble_eq_true rfl) rfl (by first | rfl | assumption) ?_
          exact opq_s
        refine x_il rfl rfl ?_
        refine x_il rfl rfl ?_
        refine x_il rfl rfl ?_
        have ih := ih c0
        have hst : othN f p q (i + 1) = othN f p q i + if decide (i ≠ q ∧ 0 ≤ f (6607 + 26 * p + (16 + i))) = true then 1 else 0 := rfl
        rw [hst] at ih
        generalize othN f p q i = o at *
        have no : ¬ (i ≠ q ∧ 0 ≤ f (6607 + 26 * p + (16 + i))) → EX g mbOf (Ev g (d + 2)) (infoOf 239) k_X11_doubt (OpQ w m F A (some (.int (bI R))) 0) noX w.1 (rW w (upd m 0 0) f A B) 0 0 51 [some (.ref 1424), some (.int (nI p)), some (.int (nI q)), some (.int z), some (.int (nI o)), some (.int (nI i))] [.int (nI o)] := by
          intro h
          rw [if_neg (by rw [decide_eq_true_iff]; exact h)] at ih
          refine x_c rfl ?_
          refine x_addN (y := 0) rfl ?_
          refine x_is (lo' := [_, _, _, _, _, _]) rfl (Nat.le_of_ble_eq_true rfl) rfl ?_
          refine x_inc1 (lo' := [_, _, _, _, _, _]) rfl rfl rfl ?_
          refine x_go rfl ?_
          exact ih
        refine x_iceqN rfl (by omega) (fun c2 => ?_) (fun c2 => ?_)
        · skip
          exact no (fun h => h.1 c2)
        refine x_al rfl rfl ?_
        refine x_il rfl rfl ?_
        refine x_c rfl ?_
        refine x_il rfl rfl ?_
        refine x_addN (x := 16) rfl ?_
        refine x_call3 (n_of (by omega) hn) rfl (Nat.le_of_ble_eq_true rfl) (Or.inl (by first | exact hn | assumption)) (rcv_at (by first | exact rw_md hn | exact rw_w hn | exact rw_A hn (by exact rfl) | exact rw_B2 hn | exact rw_B3 hn | assumption) (by decide) (by decide)) (Nat.le_of_ble_eq_true rfl) (Nat.le_of_ble_eq_true rfl) (fun E w9 hq => hq.elim) ?_
        rintro v9 w9 ⟨rfl, rfl⟩
        refine x_iflt rfl (fun c3 => ?_) (fun c3 => ?_)
        · skip
          exact no (fun h => absurd c3 (Int32.not_lt.mpr h.2))
        refine x_c rfl ?_
        refine x_go rfl ?_
        refine x_addN (y := 1) rfl ?_
        refine x_is (lo' := [_, _, _, _, _, _]) rfl (Nat.le_of_ble_eq_true rfl) rfl ?_
        refine x_inc1 (lo' := [_, _, _, _, _, _]) rfl rfl rfl ?_
        refine x_go rfl ?_
        rw [if_pos (by rw [decide_eq_true_iff]; exact ⟨c2, Int32.not_lt.mp c3⟩)] at ih
        exact ih
      exact loop 0 (by decide)
end CALLS
