/-! say, said, proved, lay; mset_ -/
section CALLS
variable {g : aG} {d : Nat} {w : aW} {m f : Nat → Int32} {A : Nat → Nat → Int32} {B : Nat → Nat → Int64}
theorem r_say {e k c j v : Int32} {nm nc ns : Nat} (hm5 : f 5825 = nI nm) (h20 : nm ≤ 20) (hc : f 6606 = nI nc) (h16 : nc ≤ 16) (hs : f 10223 = nI ns) (h200 : ns ≤ 200) (hn : w.1 = N0) : Ev g (d + 3) 271 [.ref 1424, .int e, .int k, .int c, .int j, .int v] (rW w m f A B) (OpQ w m (if syP e k c j nm nc ∧ okN v 3 = true ∧ ¬ ns = 200 ∧ 0 ≤ f (6607 + 26 * cN c + (6 + cN j)) then sayW f ns e k c j v else f) A (some (.int (if syP e k c j nm nc ∧ okN v 3 = true then (if ¬ ns = 200 ∧ 0 ≤ f (6607 + 26 * cN c + (6 + cN j)) then nI (ns + 1) else -1) else 0))) (if syP e k c j nm nc then (if okN v 3 = true then 0 else 2) else 1)) noX := by
  generalize hF : (if syP e k c j nm nc ∧ okN v 3 = true ∧ ¬ ns = 200 ∧ 0 ≤ f (6607 + 26 * cN c + (6 + cN j)) then sayW f ns e k c j v else f) = F
  generalize hR : (if syP e k c j nm nc ∧ okN v 3 = true then (if ¬ ns = 200 ∧ 0 ≤ f (6607 + 26 * cN c + (6 + cN j)) then nI (ns + 1) else -1) else 0) = R
  generalize hT : (if syP e k c j nm nc then (if okN v 3 = true then (0 : Int32) else 2) else 1) = T
  have bad : ¬ syP e k c j nm nc → EX g mbOf (Ev g (d + 2)) (infoOf 271) k_X11_say (OpQ w m F A (some (.int R)) T) noX w.1 (rW w (upd m 0 0) f A B) 0 0 20 [some (.ref 1424), some (.int e), some (.int k), some (.int c), some (.int j), some (.int v), none, none] [.ref 1424] := by
    intro h
    rw [if_neg (fun q => h q.1)] at hF hR
    rw [if_neg h] at hT
    subst hF; subst hR; subst hT
    refine x_c rfl ?_
    refine x_go rfl ?_
    refine x_c rfl ?_
    refine x_call3 (n_throwsIf (b := true) hn) rfl (Nat.le_of_ble_eq_true rfl) (Or.inl (by first | exact hn | assumption)) (rcv_at (by first | exact rw_md hn | exact rw_w hn | exact rw_A hn (by exact rfl) | exact rw_B2 hn | exact rw_B3 hn | assumption) (by decide) (by decide)) (Nat.le_of_ble_eq_true rfl) (Nat.le_of_ble_eq_true rfl) (fun E w9 hq => hq.elim) ?_
    rintro v9 w9 ⟨rfl, rfl⟩
    refine x_ifne rfl (fun cx => ?_) (fun cx => absurd cx (show ¬ (1 : Int32) = 0 by decide))
    refine x_c rfl ?_
    refine x_reti rfl (Nat.le_of_ble_eq_true rfl) (Nat.le_of_ble_eq_true rfl) rfl ?_
    exact opq_t
  refine ev_X11_say ?_ (Nat.le_of_ble_eq_true rfl)
  refine x_lo (lo' := [some (.ref 1424), some (.int e), some (.int k), some (.int c), some (.int j), some (.int v), none, none]) rfl ?_
  refine x_al rfl rfl ?_
  refine x_c rfl ?_
  refine x_putM rfl hn rfl rfl rfl (mset_0 _ _) ?_
  refine x_al rfl rfl ?_
  refine x_il rfl rfl ?_
  refine x_c rfl ?_
  refine x_c rfl ?_
  refine x_call3 (n_inN (n := 6) 5 (by decide) (by decide)) rfl (Nat.le_of_ble_eq_true rfl) (Or.inl (by first | exact hn | assumption)) trivial (Nat.le_of_ble_eq_true rfl) (Nat.le_of_ble_eq_true rfl) (fun E w9 hq => hq.elim) ?_
  rintro v9 w9 ⟨rfl, rfl⟩
  cases hb1 : okN e 6 with
  | false =>
    refine x_ifeq rfl (fun cx => ?_) (fun cx => absurd rfl cx)
    exact bad (fun q => by have h1 := q.1; rw [hb1] at h1; exact absurd h1 (by decide))
  | true =>
    refine x_ifeq rfl (fun cx => absurd cx (show ¬ (1 : Int32) = 0 by decide)) (fun cx => ?_)
    refine x_al rfl rfl ?_
    refine x_il rfl rfl ?_
    refine x_call2 (n_noMark hm5 (by omega) hn) rfl (Nat.le_of_ble_eq_true rfl) (Or.inl (by first | exact hn | assumption)) (rcv_at (by first | exact rw_md hn | exact rw_w hn | exact rw_A hn (by exact rfl) | exact rw_B2 hn | exact rw_B3 hn | assumption) (by decide) (by decide)) (Nat.le_of_ble_eq_true rfl) (Nat.le_of_ble_eq_true rfl) (fun E w9 hq => hq.elim) ?_
    rintro v9 w9 ⟨rfl, rfl⟩
    cases hb2 : okN k nm with
    | false =>
      refine x_ifne rfl (fun cx => ?_) (fun cx => absurd cx (show ¬ (1 : Int32) = 0 by decide))
      exact bad (fun q => by have h1 := q.2.1; rw [hb2] at h1; exact absurd h1 (by decide))
    | true =>
      refine x_ifne rfl (fun cx => absurd rfl cx) (fun cx => ?_)
      refine x_al rfl rfl ?_
      refine x_il rfl rfl ?_
      refine x_call2 (n_noCard hc (by omega) hn) rfl (Nat.le_of_ble_eq_true rfl) (Or.inl (by first | exact hn | assumption)) (rcv_at (by first | exact rw_md hn | exact rw_w hn | exact rw_A hn (by exact rfl) | exact rw_B2 hn | exact rw_B3 hn | assumption) (by decide) (by decide)) (Nat.le_of_ble_eq_true rfl) (Nat.le_of_ble_eq_true rfl) (fun E w9 hq => hq.elim) ?_
      rintro v9 w9 ⟨rfl, rfl⟩
      cases hb3 : okN c nc with
      | false =>
        refine x_ifne rfl (fun cx => ?_) (fun cx => absurd cx (show ¬ (1 : Int32) = 0 by decide))
        exact bad (fun q => by have h1 := q.2.2.1; rw [hb3] at h1; exact absurd h1 (by decide))
      | true =>
        refine x_ifne rfl (fun cx => absurd rfl cx) (fun cx => ?_)
        refine x_il rfl rfl ?_
        refine x_call1 (n_noFinger hn) rfl (Nat.le_of_ble_eq_true rfl) (Or.inl (by first | exact hn | assumption)) trivial (Nat.le_of_ble_eq_true rfl) (Nat.le_of_ble_eq_true rfl) (fun E w9 hq => hq.elim) ?_
        rintro v9 w9 ⟨rfl, rfl⟩
        cases hb4 : okN j 10 with
        | false =>
          refine x_ifeq rfl (fun cx => absurd cx (show ¬ (1 : Int32) = 0 by decide)) (fun cx => ?_)
          exact bad (fun q => by have h1 := q.2.2.2; rw [hb4] at h1; exact absurd h1 (by decide))
        | true =>
          obtain ⟨p, hp, ep, hcn⟩ := ok_of hb3 (by omega)
          obtain ⟨q, hq, eq, hcn2⟩ := ok_of hb4 (by omega)
          have ok : syP e k c j nm nc := ⟨hb1, hb2, hb3, hb4⟩
          rw [if_pos ok] at hT
          rw [hcn, hcn2] at hF hR
          subst ep; subst eq
          refine x_ifeq rfl (fun cx => ?_) (fun cx => absurd rfl cx)
          refine x_c rfl ?_
          refine x_c rfl ?_
          refine x_call3 (n_throwsIf (b := false) hn) rfl (Nat.le_of_ble_eq_true rfl) (Or.inl (by first | exact hn | assumption)) (rcv_at (by first | exact rw_md hn | exact rw_w hn | exact rw_A hn (by exact rfl) | exact rw_B2 hn | exact rw_B3 hn | assumption) (by decide) (by decide)) (Nat.le_of_ble_eq_true rfl) (Nat.le_of_ble_eq_true rfl) (fun E w9 hq => hq.elim) ?_
          rintro v9 w9 ⟨rfl, rfl⟩
          refine x_ifne rfl (fun cx => absurd rfl cx) (fun cx => ?_)
          refine x_al rfl rfl ?_
          refine x_il rfl rfl ?_
          refine x_c rfl ?_
          refine x_c rfl ?_
          refine x_call3 (n_inN (n := 3) 2 (by decide) (by decide)) rfl (Nat.le_of_ble_eq_true rfl) (Or.inl (by first | exact hn | assumption)) trivial (Nat.le_of_ble_eq_true rfl) (Nat.le_of_ble_eq_true rfl) (fun E w9 hq => hq.elim) ?_
          rintro v9 w9 ⟨rfl, rfl⟩
          cases hb5 : okN v 3 with
          | false =>
            rw [if_neg (fun q => by have h1 := q.2.1; rw [hb5] at h1; exact absurd h1 (by decide))] at hF
            rw [if_neg (fun q => by have h1 := q.2; rw [hb5] at h1; exact absurd h1 (by decide))] at hR
            rw [if_neg (by rw [hb5]; decide)] at hT
            subst hF; subst hR; subst hT
            refine x_ifne rfl (fun cx => absurd rfl cx) (fun cx => ?_)
            refine x_c rfl ?_
            refine x_go rfl ?_
            refine x_c rfl ?_
            refine x_call3 (n_throwsIf (b := true) hn) rfl (Nat.le_of_ble_eq_true rfl) (Or.inl (by first | exact hn | assumption)) (rcv_at (by first | exact rw_md hn | exact rw_w hn | exact rw_A hn (by exact rfl) | exact rw_B2 hn | exact rw_B3 hn | assumption) (by decide) (by decide)) (Nat.le_of_ble_eq_true rfl) (Nat.le_of_ble_eq_true rfl) (fun E w9 hq => hq.elim) ?_
            rintro v9 w9 ⟨rfl, rfl⟩
            refine x_ifeq rfl (fun cx => absurd cx (show ¬ (1 : Int32) = 0 by decide)) (fun cx => ?_)
            refine x_c rfl ?_
            refine x_reti rfl (Nat.le_of_ble_eq_true rfl) (Nat.le_of_ble_eq_true rfl) rfl ?_
            exact opq_t
          | true =>
            rw [if_pos ⟨ok, hb5⟩] at hR
            rw [if_pos hb5] at hT
            subst hT
            refine x_ifne rfl (fun cx => ?_) (fun cx => absurd cx (show ¬ (1 : Int32) = 0 by decide))
            refine x_c rfl ?_
            refine x_c rfl ?_
            refine x_call3 (n_throwsIf (b := false) hn) rfl (Nat.le_of_ble_eq_true rfl) (Or.inl (by first | exact hn | assumption)) (rcv_at (by first | exact rw_md hn | exact rw_w hn | exact rw_A hn (by exact rfl) | exact rw_B2 hn | exact rw_B3 hn | assumption) (by decide) (by decide)) (Nat.le_of_ble_eq_true rfl) (Nat.le_of_ble_eq_true rfl) (fun E w9 hq => hq.elim) ?_
            rintro v9 w9 ⟨rfl, rfl⟩
            refine x_ifeq rfl (fun cx => ?_) (fun cx => absurd rfl cx)
            refine x_al rfl rfl ?_
            refine x_get rfl (rw_md hn) (by exact rfl) ?_
            refine x_c rfl ?_
            refine x_iaN (j := 10223) rfl (by first | exact rw_md hn | exact rw_w hn | exact rw_A hn (by exact rfl) | exact rw_B2 hn | exact rw_B3 hn | assumption) (by omega) ?_
            rw [hs]
            refine x_is (lo' := [_, _, _, _, _, _, _, _]) rfl (Nat.le_of_ble_eq_true rfl) rfl ?_
            refine x_il rfl rfl ?_
            refine x_c rfl ?_
            have no : ¬ (¬ ns = 200 ∧ 0 ≤ f (6607 + 26 * p + (6 + q))) → EX g mbOf (Ev g (d + 2)) (infoOf 271) k_X11_say (OpQ w m F A (some (.int R)) 0) noX w.1 (rW w (upd m 0 0) f A B) 0 0 55 [some (.ref 1424), some (.int e), some (.int k), some (.int (nI p)), some (.int (nI q)), some (.int v), some (.int (nI ns)), none] [] := by
              intro h
              rw [if_neg (fun q => h q.2.2)] at hF
              rw [if_neg h] at hR
              subst hF; subst hR
              refine x_c rfl ?_
              refine x_reti rfl (Nat.le_of_ble_eq_true rfl) (Nat.le_of_ble_eq_true rfl) rfl ?_
              exact opq_s
            refine x_iceqN (y := 200) rfl (by omega) (fun c1 => ?_) (fun c1 => ?_)
            · skip
              exact no (fun h => h.1 c1)
            refine x_al rfl rfl ?_
            refine x_il rfl rfl ?_
            refine x_c rfl ?_
            refine x_il rfl rfl ?_
            refine x_addN (x := 6) rfl ?_
            refine x_call3 (n_of (by omega) hn) rfl (Nat.le_of_ble_eq_true rfl) (Or.inl (by first | exact hn | assumption)) (rcv_at (by first | exact rw_md hn | exact rw_w hn | exact rw_A hn (by exact rfl) | exact rw_B2 hn | exact rw_B3 hn | assumption) (by decide) (by decide)) (Nat.le_of_ble_eq_true rfl) (Nat.le_of_ble_eq_true rfl) (fun E w9 hq => hq.elim) ?_
            rintro v9 w9 ⟨rfl, rfl⟩
            refine x_ifge rfl (fun c2 => ?_) (fun c2 => ?_)
            rotate_left
            · skip
              exact no (fun h => c2 h.2)
            rw [if_pos ⟨ok, hb5, c1, c2⟩] at hF
            rw [if_pos ⟨c1, c2⟩] at hR
            subst hF; subst hR
            refine x_c rfl ?_
            refine x_c rfl ?_
            refine x_il rfl rfl ?_
            refine x_mulN (x := 6) rfl ?_
            refine x_addN (x := 10224) rfl ?_
            refine x_is (lo' := [_, _, _, _, _, _, _, _]) rfl (Nat.le_of_ble_eq_true rfl) rfl ?_
            refine x_al rfl rfl ?_
            refine x_get rfl (rw_md hn) (by exact rfl) ?_
            refine x_il rfl rfl ?_
            refine x_il rfl rfl ?_
            first | refine x_iasW rfl hn (by omega) ?_ | refine x_iasA rfl hn (by exact rfl) (by omega) ?_
            refine x_al rfl rfl ?_
            refine x_get rfl (rw_md hn) (by exact rfl) ?_
            refine x_il rfl rfl ?_
            refine x_c rfl ?_
            refine x_addN (y := 1) rfl ?_
            refine x_il rfl rfl ?_
            first | refine x_iasW rfl hn (by omega) ?_ | refine x_iasA rfl hn (by exact rfl) (by omega) ?_
            refine x_al rfl rfl ?_
            refine x_get rfl (rw_md hn) (by exact rfl) ?_
            refine x_il rfl rfl ?_
            refine x_c rfl ?_
            refine x_addN (y := 2) rfl ?_
            refine x_il rfl rfl ?_
            first | refine x_iasW rfl hn (by omega) ?_ | refine x_iasA rfl hn (by exact rfl) (by omega) ?_
            refine x_al rfl rfl ?_
            refine x_get rfl (rw_md hn) (by exact rfl) ?_
            refine x_il rfl rfl ?_
            refine x_c rfl ?_
            refine x_addN (y := 3) rfl ?_
            refine x_il rfl rfl ?_
            first | refine x_iasW rfl hn (by omega) ?_ | refine x_iasA rfl hn (by exact rfl) (by omega) ?_
            refine x_al rfl rfl ?_
            refine x_get rfl (rw_md hn) (by exact rfl) ?_
            refine x_il rfl rfl ?_
            refine x_c rfl ?_
            refine x_addN (y := 4) rfl ?_
            refine x_il rfl rfl ?_
            first | refine x_iasW rfl hn (by omega) ?_ | refine x_iasA rfl hn (by exact rfl) (by omega) ?_
            refine x_al rfl rfl ?_
            refine x_get rfl (rw_md hn) (by exact rfl) ?_
            refine x_il rfl rfl ?_
            refine x_c rfl ?_
            refine x_addN (y := 5) rfl ?_
            refine x_al rfl rfl ?_
            refine x_call1 (n_today hn) rfl (Nat.le_of_ble_eq_true rfl) (Or.inl (by first | exact hn | assumption)) (rcv_at (by first | exact rw_md hn | exact rw_w hn | exact rw_A hn (by exact rfl) | exact rw_B2 hn | exact rw_B3 hn | assumption) (by decide) (by decide)) (Nat.le_of_ble_eq_true rfl) (Nat.le_of_ble_eq_true rfl) (fun E w9 hq => hq.elim) ?_
            rintro v9 w9 ⟨rfl, rfl⟩
            refine x_eq (y := f 0) ?_ ?_
            · rw [pk_un (by omega), pk_un (by omega), pk_un (by omega), pk_un (by omega), pk_un (by omega)]
            first | refine x_iasW rfl hn (by omega) ?_ | refine x_iasA rfl hn (by exact rfl) (by omega) ?_
            refine x_al rfl rfl ?_
            refine x_get rfl (rw_md hn) (by exact rfl) ?_
            refine x_c rfl ?_
            refine x_dup2 rfl rfl rfl ?_
            refine x_iaN (j := 10223) rfl (by first | exact rw_md hn | exact rw_w hn | exact rw_A hn (by exact rfl) | exact rw_B2 hn | exact rw_B3 hn | assumption) (by omega) ?_
            refine x_eq (y := nI ns) ?_ ?_
            · rw [pk_un (by omega), pk_un (by omega), pk_un (by omega), pk_un (by omega), pk_un (by omega), pk_un (by omega), hs]
            refine x_c rfl ?_
            refine x_addN (y := 1) rfl ?_
            first | refine x_iasW (j := 10223) rfl hn (by omega) ?_ | refine x_iasA (j := 10223) rfl hn (by exact rfl) (by omega) ?_
            refine x_il rfl rfl ?_
            refine x_c rfl ?_
            refine x_addN (y := 1) rfl ?_
            refine x_reti rfl (Nat.le_of_ble_eq_true rfl) (Nat.le_of_ble_eq_true rfl) rfl ?_
            exact opq_s
theorem r_said {e k c j day : Int32} {nm nc ns : Nat} (hm5 : f 5825 = nI nm) (h20 : nm ≤ 20) (hc : f 6606 = nI nc) (h16 : nc ≤ 16) (hs : f 10223 = nI ns) (h200 : ns ≤ 200) (hn : w.1 = N0) : Ev g (d + 3) 273 [.ref 1424, .int e, .int k, .int c, .int j, .int day] (rW w m f A B) (OpQ w m f A (some (.int (if syP e k c j nm nc then sdF f e k c j day ns else 0))) (if syP e k c j nm nc then 0 else 1)) noX := by
  generalize hR : (if syP e k c j nm nc then sdF f e k c j day ns else 0) = R
  generalize hT : (if syP e k c j nm nc then (0 : Int32) else 1) = T
  have bad : ¬ syP e k c j nm nc → EX g mbOf (Ev g (d + 2)) (infoOf 273) k_X11_said (OpQ w m f A (some (.int R)) T) noX w.1 (rW w (upd m 0 0) f A B) 0 0 20 [some (.ref 1424), some (.int e), some (.int k), some (.int c), some (.int j), some (.int day)] [.ref 1424] := by
    intro h
    rw [if_neg h] at hT hR
    subst hR; subst hT
    refine x_c rfl ?_
    refine x_go rfl ?_
    refine x_c rfl ?_
    refine x_call3 (n_throwsIf (b := true) hn) rfl (Nat.le_of_ble_eq_true rfl) (Or.inl (by first | exact hn | assumption)) (rcv_at (by first | exact rw_md hn | exact rw_w hn | exact rw_A hn (by exact rfl) | exact rw_B2 hn | exact rw_B3 hn | assumption) (by decide) (by decide)) (Nat.le_of_ble_eq_true rfl) (Nat.le_of_ble_eq_true rfl) (fun E w9 hq => hq.elim) ?_
    rintro v9 w9 ⟨rfl, rfl⟩
    refine x_ifeq rfl (fun cx => absurd cx (show ¬ (1 : Int32) = 0 by decide)) (fun cx => ?_)
    refine x_c rfl ?_
    refine x_go rfl ?_
    refine x_reti rfl (Nat.le_of_ble_eq_true rfl) (Nat.le_of_ble_eq_true rfl) rfl ?_
    exact opq_t
  refine ev_X11_said ?_ (Nat.le_of_ble_eq_true rfl)
  refine x_lo (lo' := [some (.ref 1424), some (.int e), some (.int k), some (.int c), some (.int j), some (.int day)]) rfl ?_
  refine x_al rfl rfl ?_
  refine x_c rfl ?_
  refine x_putM rfl hn rfl rfl rfl (mset_0 _ _) ?_
  refine x_al rfl rfl ?_
  refine x_il rfl rfl ?_
  refine x_c rfl ?_
  refine x_c rfl ?_
  refine x_call3 (n_inN (n := 6) 5 (by decide) (by decide)) rfl (Nat.le_of_ble_eq_true rfl) (Or.inl (by first | exact hn | assumption)) trivial (Nat.le_of_ble_eq_true rfl) (Nat.le_of_ble_eq_true rfl) (fun E w9 hq => hq.elim) ?_
  rintro v9 w9 ⟨rfl, rfl⟩
  cases hb1 : okN e 6 with
  | false =>
    refine x_ifeq rfl (fun cx => ?_) (fun cx => absurd rfl cx)
    exact bad (fun q => by have h1 := q.1; rw [hb1] at h1; exact absurd h1 (by decide))
  | true =>
    refine x_ifeq rfl (fun cx => absurd cx (show ¬ (1 : Int32) = 0 by decide)) (fun cx => ?_)
    refine x_al rfl rfl ?_
    refine x_il rfl rfl ?_
    refine x_call2 (n_noMark hm5 (by omega) hn) rfl (Nat.le_of_ble_eq_true rfl) (Or.inl (by first | exact hn | assumption)) (rcv_at (by first | exact rw_md hn | exact rw_w hn | exact rw_A hn (by exact rfl) | exact rw_B2 hn | exact rw_B3 hn | assumption) (by decide) (by decide)) (Nat.le_of_ble_eq_true rfl) (Nat.le_of_ble_eq_true rfl) (fun E w9 hq => hq.elim) ?_
    rintro v9 w9 ⟨rfl, rfl⟩
    cases hb2 : okN k nm with
    | false =>
      refine x_ifne rfl (fun cx => ?_) (fun cx => absurd cx (show ¬ (1 : Int32) = 0 by decide))
      exact bad (fun q => by have h1 := q.2.1; rw [hb2] at h1; exact absurd h1 (by decide))
    | true =>
      refine x_ifne rfl (fun cx => absurd rfl cx) (fun cx => ?_)
      refine x_al rfl rfl ?_
      refine x_il rfl rfl ?_
      refine x_call2 (n_noCard hc (by omega) hn) rfl (Nat.le_of_ble_eq_true rfl) (Or.inl (by first | exact hn | assumption)) (rcv_at (by first | exact rw_md hn | exact rw_w hn | exact rw_A hn (by exact rfl) | exact rw_B2 hn | exact rw_B3 hn | assumption) (by decide) (by decide)) (Nat.le_of_ble_eq_true rfl) (Nat.le_of_ble_eq_true rfl) (fun E w9 hq => hq.elim) ?_
      rintro v9 w9 ⟨rfl, rfl⟩
      cases hb3 : okN c nc with
      | false =>
        refine x_ifne rfl (fun cx => ?_) (fun cx => absurd cx (show ¬ (1 : Int32) = 0 by decide))
        exact bad (fun q => by have h1 := q.2.2.1; rw [hb3] at h1; exact absurd h1 (by decide))
      | true =>
        refine x_ifne rfl (fun cx => absurd rfl cx) (fun cx => ?_)
        refine x_il rfl rfl ?_
        refine x_call1 (n_noFinger hn) rfl (Nat.le_of_ble_eq_true rfl) (Or.inl (by first | exact hn | assumption)) trivial (Nat.le_of_ble_eq_true rfl) (Nat.le_of_ble_eq_true rfl) (fun E w9 hq => hq.elim) ?_
        rintro v9 w9 ⟨rfl, rfl⟩
        cases hb4 : okN j 10 with
        | false =>
          refine x_ifeq rfl (fun cx => absurd cx (show ¬ (1 : Int32) = 0 by decide)) (fun cx => ?_)
          exact bad (fun q => by have h1 := q.2.2.2; rw [hb4] at h1; exact absurd h1 (by decide))
        | true =>
          have ok : syP e k c j nm nc := ⟨hb1, hb2, hb3, hb4⟩
          rw [if_pos ok] at hT hR
          subst hR; subst hT
          refine x_ifeq rfl (fun cx => ?_) (fun cx => absurd rfl cx)
          refine x_c rfl ?_
          refine x_c rfl ?_
          refine x_call3 (n_throwsIf (b := false) hn) rfl (Nat.le_of_ble_eq_true rfl) (Or.inl (by first | exact hn | assumption)) (rcv_at (by first | exact rw_md hn | exact rw_w hn | exact rw_A hn (by exact rfl) | exact rw_B2 hn | exact rw_B3 hn | assumption) (by decide) (by decide)) (Nat.le_of_ble_eq_true rfl) (Nat.le_of_ble_eq_true rfl) (fun E w9 hq => hq.elim) ?_
          rintro v9 w9 ⟨rfl, rfl⟩
          refine x_ifeq rfl (fun cx => ?_) (fun cx => absurd rfl cx)
          refine x_al rfl rfl ?_
          refine x_il rfl rfl ?_
          refine x_il rfl rfl ?_
          refine x_il rfl rfl ?_
          refine x_il rfl rfl ?_
          refine x_il rfl rfl ?_
          refine x_call6 (n_saidOf hs h200 hn) rfl (Nat.le_of_ble_eq_true rfl) (Or.inl (by first | exact hn | assumption)) (rcv_at (by first | exact rw_md hn | exact rw_w hn | exact rw_A hn (by exact rfl) | exact rw_B2 hn | exact rw_B3 hn | assumption) (by decide) (by decide)) (Nat.le_of_ble_eq_true rfl) (Nat.le_of_ble_eq_true rfl) (fun E w9 hq => hq.elim) ?_
          rintro v9 w9 ⟨rfl, rfl⟩
          refine x_reti rfl (Nat.le_of_ble_eq_true rfl) (Nat.le_of_ble_eq_true rfl) rfl ?_
          exact opq_s
abbrev mcP (k c j : Int32) (nm nc : Nat) : Prop := okN k nm = true ∧ okN c nc = true ∧ okN j 10 = true
theorem r_proved {k c j day : Int32} {n nm nc ns : Nat} (hD : DI f n nc nm ns) (hn : w.1 = N0) : Ev g (d + 16) 275 [.ref 1424, .int k, .int c, .int j, .int day] (rW w m f A B) (OpQ w m f A (some (.int (bI (decide (mcP k c j nm nc ∧ prvP f n ns (cN k) (cN c) (cN j) day))))) (if mcP k c j nm nc then 0 else 1)) noX := by
  obtain ⟨hT1, hW, hF1, hm5, h20, hs, h200, -⟩ := hD
  have h16 := hF1.2.1
  generalize hR : decide (mcP k c j nm nc ∧ prvP f n ns (cN k) (cN c) (cN j) day) = R
  generalize hT : (if mcP k c j nm nc then (0 : Int32) else 1) = T
  have bad : ¬ mcP k c j nm nc → EX g mbOf (Ev g (d + 15)) (infoOf 275) k_X11_proved (OpQ w m f A (some (.int (bI R))) T) noX w.1 (rW w (upd m 0 0) f A B) 0 0 15 [some (.ref 1424), some (.int k), some (.int c), some (.int j), some (.int day)] [.ref 1424] := by
    intro h
    rw [decide_eq_false (fun q => h q.1)] at hR
    rw [if_neg h] at hT
    subst hR; subst hT
    refine x_c rfl ?_
    refine x_go rfl ?_
    refine x_c rfl ?_
    refine x_call3 (n_throwsIf (b := true) hn) rfl (Nat.le_of_ble_eq_true rfl) (Or.inl (by first | exact hn | assumption)) (rcv_at (by first | exact rw_md hn | exact rw_w hn | exact rw_A hn (by exact rfl) | exact rw_B2 hn | exact rw_B3 hn | assumption) (by decide) (by decide)) (Nat.le_of_ble_eq_true rfl) (Nat.le_of_ble_eq_true rfl) (fun E w9 hq => hq.elim) ?_
    rintro v9 w9 ⟨rfl, rfl⟩
    refine x_ifne rfl (fun cx => ?_) (fun cx => absurd cx (show ¬ (1 : Int32) = 0 by decide))
    refine x_c rfl ?_
    refine x_retz rfl (Nat.le_of_ble_eq_true rfl) (Nat.le_of_ble_eq_true rfl) rfl (by first | rfl | assumption) ?_
    exact opq_t
  refine ev_X11_proved ?_ (Nat.le_of_ble_eq_true rfl)
  refine x_lo (lo' := [some (.ref 1424), some (.int k), some (.int c), some (.int j), some (.int day)]) rfl ?_
  refine x_al rfl rfl ?_
  refine x_c rfl ?_
  refine x_putM rfl hn rfl rfl rfl (mset_0 _ _) ?_
  refine x_al rfl rfl ?_
  refine x_al rfl rfl ?_
  refine x_il rfl rfl ?_
  refine x_call2 (n_noMark hm5 (by omega) hn) rfl (Nat.le_of_ble_eq_true rfl) (Or.inl (by first | exact hn | assumption)) (rcv_at (by first | exact rw_md hn | exact rw_w hn | exact rw_A hn (by exact rfl) | exact rw_B2 hn | exact rw_B3 hn | assumption) (by decide) (by decide)) (Nat.le_of_ble_eq_true rfl) (Nat.le_of_ble_eq_true rfl) (fun E w9 hq => hq.elim) ?_
  rintro v9 w9 ⟨rfl, rfl⟩
  cases hb2 : okN k nm with
  | false =>
    refine x_ifne rfl (fun cx => ?_) (fun cx => absurd cx (show ¬ (1 : Int32) = 0 by decide))
    exact bad (fun q => by have h1 := q.1; rw [hb2] at h1; exact absurd h1 (by decide))
  | true =>
    refine x_ifne rfl (fun cx => absurd rfl cx) (fun cx => ?_)
    refine x_al rfl rfl ?_
    refine x_il rfl rfl ?_
    refine x_call2 (n_noCard hF1.1 (by omega) hn) rfl (Nat.le_of_ble_eq_true rfl) (Or.inl (by first | exact hn | assumption)) (rcv_at (by first | exact rw_md hn | exact rw_w hn | exact rw_A hn (by exact rfl) | exact rw_B2 hn | exact rw_B3 hn | assumption) (by decide) (by decide)) (Nat.le_of_ble_eq_true rfl) (Nat.le_of_ble_eq_true rfl) (fun E w9 hq => hq.elim) ?_
    rintro v9 w9 ⟨rfl, rfl⟩
    cases hb3 : okN c nc with
    | false =>
      refine x_ifne rfl (fun cx => ?_) (fun cx => absurd cx (show ¬ (1 : Int32) = 0 by decide))
      exact bad (fun q => by have h1 := q.2.1; rw [hb3] at h1; exact absurd h1 (by decide))
    | true =>
      refine x_ifne rfl (fun cx => absurd rfl cx) (fun cx => ?_)
      refine x_il rfl rfl ?_
      refine x_call1 (n_noFinger hn) rfl (Nat.le_of_ble_eq_true rfl) (Or.inl (by first | exact hn | assumption)) trivial (Nat.le_of_ble_eq_true rfl) (Nat.le_of_ble_eq_true rfl) (fun E w9 hq => hq.elim) ?_
      rintro v9 w9 ⟨rfl, rfl⟩
      cases hb4 : okN j 10 with
      | false =>
        refine x_ifeq rfl (fun cx => absurd cx (show ¬ (1 : Int32) = 0 by decide)) (fun cx => ?_)
        exact bad (fun q => by have h1 := q.2.2; rw [hb4] at h1; exact absurd h1 (by decide))
      | true =>
        obtain ⟨z, hz, ez, hcn0⟩ := ok_of hb2 (by omega)
        obtain ⟨p, hp, ep, hcn⟩ := ok_of hb3 (by omega)
        obtain ⟨q, hq, eq, hcn2⟩ := ok_of hb4 (by omega)
        have ok : mcP k c j nm nc := ⟨hb2, hb3, hb4⟩
        rw [if_pos ok] at hT
        rw [hcn0, hcn, hcn2] at hR
        subst ez; subst ep; subst eq; subst hT
        refine x_ifeq rfl (fun cx => ?_) (fun cx => absurd rfl cx)
        refine x_c rfl ?_
        refine x_c rfl ?_
        refine x_call3 (n_throwsIf (b := false) hn) rfl (Nat.le_of_ble_eq_true rfl) (Or.inl (by first | exact hn | assumption)) (rcv_at (by first | exact rw_md hn | exact rw_w hn | exact rw_A hn (by exact rfl) | exact rw_B2 hn | exact rw_B3 hn | assumption) (by decide) (by decide)) (Nat.le_of_ble_eq_true rfl) (Nat.le_of_ble_eq_true rfl) (fun E w9 hq => hq.elim) ?_
        rintro v9 w9 ⟨rfl, rfl⟩
        refine x_ifne rfl (fun cx => absurd rfl cx) (fun cx => ?_)
        refine x_al rfl rfl ?_
        refine x_il rfl rfl ?_
        refine x_il rfl rfl ?_
        refine x_il rfl rfl ?_
        refine x_il rfl rfl ?_
        refine x_call5 (n_isProved hT1 hW hs h200 (by omega) (by omega) hq (hF1.2.2 _ hp _ hq) hn) rfl (Nat.le_of_ble_eq_true rfl) (Or.inl (by first | exact hn | assumption)) (rcv_at (by first | exact rw_md hn | exact rw_w hn | exact rw_A hn (by exact rfl) | exact rw_B2 hn | exact rw_B3 hn | assumption) (by decide) (by decide)) (Nat.le_of_ble_eq_true rfl) (Nat.le_of_ble_eq_true rfl) (fun E w9 hq => hq.elim) ?_
        rintro v9 w9 ⟨M', A2, rfl, hk2, hA2, rfl⟩
        refine x_ifeqB rfl (fun c1 => ?_) (fun c1 => ?_)
        · skip
          rw [decide_eq_false (fun q => c1 q.2)] at hR
          subst hR
          refine x_c rfl ?_
          refine x_retz rfl (Nat.le_of_ble_eq_true rfl) (Nat.le_of_ble_eq_true rfl) rfl (by first | rfl | assumption) ?_
          exact opq_k hk2 hA2
        refine x_c rfl ?_
        refine x_go rfl ?_
        refine x_retz rfl (Nat.le_of_ble_eq_true rfl) (Nat.le_of_ble_eq_true rfl) rfl (by first | rfl | assumption) ?_
        rw [decide_eq_true ⟨ok, c1⟩] at hR
        subst hR
        exact opq_k hk2 hA2
end CALLS
