/-! calls that write points, marks, cards; mset_ -/
def ptB (x y k h : Int32) : Bool := okN x 64 && (okN y 64 && (okN k 3 && okN h 16))
/-- a point added to a sheet whose count lies at a -/
def addF (f : Nat → Int32) (a n : Nat) (x y k h : Int32) : Nat → Int32 := upd (upd (upd (upd (upd f (a + 1 + 4 * n) x) (a + 2 + 4 * n) y) (a + 3 + 4 * n) k) (a + 4 + 4 * n) h) a (nI (n + 1))
section CALLS
variable {g : aG} {d : Nat} {w : aW} {m f : Nat → Int32} {A : Nat → Nat → Int32} {B : Nat → Nat → Int64}
theorem n_noPoint {x y k h : Int32} (hn : w.1 = N0) : Ev g (d + 2) 213 [.int x, .int y, .int k, .int h] w (RetQ (bI (!ptB x y k h)) w) noX := by
  unfold ptB
  refine ev_X11_noPoint ?_ (Nat.le_of_ble_eq_true rfl)
  refine x_lo (lo' := [some (.int x), some (.int y), some (.int k), some (.int h)]) rfl ?_
  refine x_il rfl rfl ?_
  refine x_c rfl ?_
  refine x_c rfl ?_
  refine x_call3 (n_inN (n := 64) 63 (by decide) (by decide)) rfl (Nat.le_of_ble_eq_true rfl) (Or.inl (by first | exact hn | assumption)) trivial (Nat.le_of_ble_eq_true rfl) (Nat.le_of_ble_eq_true rfl) (fun E w9 hq => hq.elim) ?_
  rintro v9 w9 ⟨rfl, rfl⟩
  cases okN x 64 with
  | false =>
    refine x_ifeq rfl (fun c => ?_) (fun c => absurd rfl c)
    refine x_c rfl ?_
    refine x_go rfl ?_
    refine x_retz rfl (Nat.le_of_ble_eq_true rfl) (Nat.le_of_ble_eq_true rfl) rfl (by first | rfl | assumption) ?_
    exact ⟨rfl, rfl⟩
  | true =>
    refine x_ifeq rfl (fun c => absurd c (show ¬ (1 : Int32) = 0 by decide)) (fun c => ?_)
    refine x_il rfl rfl ?_
    refine x_c rfl ?_
    refine x_c rfl ?_
    refine x_call3 (n_inN (n := 64) 63 (by decide) (by decide)) rfl (Nat.le_of_ble_eq_true rfl) (Or.inl (by first | exact hn | assumption)) trivial (Nat.le_of_ble_eq_true rfl) (Nat.le_of_ble_eq_true rfl) (fun E w9 hq => hq.elim) ?_
    rintro v9 w9 ⟨rfl, rfl⟩
    cases okN y 64 with
    | false =>
      refine x_ifeq rfl (fun c => ?_) (fun c => absurd rfl c)
      refine x_c rfl ?_
      refine x_go rfl ?_
      refine x_retz rfl (Nat.le_of_ble_eq_true rfl) (Nat.le_of_ble_eq_true rfl) rfl (by first | rfl | assumption) ?_
      exact ⟨rfl, rfl⟩
    | true =>
      refine x_ifeq rfl (fun c => absurd c (show ¬ (1 : Int32) = 0 by decide)) (fun c => ?_)
      refine x_il rfl rfl ?_
      refine x_c rfl ?_
      refine x_c rfl ?_
      refine x_call3 (n_inN (n := 3) 2 (by decide) (by decide)) rfl (Nat.le_of_ble_eq_true rfl) (Or.inl (by first | exact hn | assumption)) trivial (Nat.le_of_ble_eq_true rfl) (Nat.le_of_ble_eq_true rfl) (fun E w9 hq => hq.elim) ?_
      rintro v9 w9 ⟨rfl, rfl⟩
      cases okN k 3 with
      | false =>
        refine x_ifeq rfl (fun c => ?_) (fun c => absurd rfl c)
        refine x_c rfl ?_
        refine x_go rfl ?_
        refine x_retz rfl (Nat.le_of_ble_eq_true rfl) (Nat.le_of_ble_eq_true rfl) rfl (by first | rfl | assumption) ?_
        exact ⟨rfl, rfl⟩
      | true =>
        refine x_ifeq rfl (fun c => absurd c (show ¬ (1 : Int32) = 0 by decide)) (fun c => ?_)
        refine x_il rfl rfl ?_
        refine x_c rfl ?_
        refine x_c rfl ?_
        refine x_call3 (n_inN (n := 16) 15 (by decide) (by decide)) rfl (Nat.le_of_ble_eq_true rfl) (Or.inl (by first | exact hn | assumption)) trivial (Nat.le_of_ble_eq_true rfl) (Nat.le_of_ble_eq_true rfl) (fun E w9 hq => hq.elim) ?_
        rintro v9 w9 ⟨rfl, rfl⟩
        cases okN h 16 with
        | false =>
          refine x_ifne rfl (fun c => absurd rfl c) (fun c => ?_)
          refine x_c rfl ?_
          refine x_go rfl ?_
          refine x_retz rfl (Nat.le_of_ble_eq_true rfl) (Nat.le_of_ble_eq_true rfl) rfl (by first | rfl | assumption) ?_
          exact ⟨rfl, rfl⟩
        | true =>
          refine x_ifne rfl (fun c => ?_) (fun c => absurd c (show ¬ (1 : Int32) = 0 by decide))
          refine x_c rfl ?_
          refine x_retz rfl (Nat.le_of_ble_eq_true rfl) (Nat.le_of_ble_eq_true rfl) rfl (by first | rfl | assumption) ?_
          exact ⟨rfl, rfl⟩
theorem n_adds {a n : Nat} {x y k h : Int32} (ha : a + 33 < 22176) (hc : f a = nI n) (h8 : n ≤ 8) (hn : w.1 = N0) : Ev g (d + 1) 214 [.ref 1424, .int (nI a), .int x, .int y, .int k, .int h] (rW w m f A B) (RetQ (if n = 8 then -1 else nI n) (rW w m (if n = 8 then f else addF f a n x y k h) A B)) noX := by
  refine ev_X11_adds ?_ (Nat.le_of_ble_eq_true rfl)
  refine x_lo (lo' := [some (.ref 1424), some (.int (nI a)), some (.int x), some (.int y), some (.int k), some (.int h), none]) rfl ?_
  refine x_al rfl rfl ?_
  refine x_get rfl (rw_md hn) (by exact rfl) ?_
  refine x_il rfl rfl ?_
  refine x_iaN rfl (by first | exact rw_md hn | exact rw_w hn | exact rw_A hn (by exact rfl) | exact rw_B2 hn | exact rw_B3 hn | assumption) (by omega) ?_
  rw [hc]
  refine x_is (lo' := [_, _, _, _, _, _, _]) rfl (Nat.le_of_ble_eq_true rfl) rfl ?_
  refine x_il rfl rfl ?_
  refine x_c rfl ?_
  refine x_icneN (y := 8) rfl (by omega) (fun c0 => ?_) (fun c0 => ?_)
  rotate_left
  · refine x_c rfl ?_
    refine x_reti rfl (Nat.le_of_ble_eq_true rfl) (Nat.le_of_ble_eq_true rfl) rfl ?_
    rw [if_pos c0, if_pos c0]
    exact ⟨rfl, rfl⟩
  refine x_al rfl rfl ?_
  refine x_get rfl (rw_md hn) (by exact rfl) ?_
  refine x_il rfl rfl ?_
  refine x_c rfl ?_
  refine x_addN (y := 1) rfl ?_
  refine x_c rfl ?_
  refine x_il rfl rfl ?_
  refine x_mulN (x := 4) rfl ?_
  refine x_addN rfl ?_
  refine x_il rfl rfl ?_
  first | refine x_iasW rfl hn (by omega) ?_ | refine x_iasA rfl hn (by exact rfl) (by omega) ?_
  refine x_al rfl rfl ?_
  refine x_get rfl (rw_md hn) (by exact rfl) ?_
  refine x_il rfl rfl ?_
  refine x_c rfl ?_
  refine x_addN (y := 2) rfl ?_
  refine x_c rfl ?_
  refine x_il rfl rfl ?_
  refine x_mulN (x := 4) rfl ?_
  refine x_addN rfl ?_
  refine x_il rfl rfl ?_
  first | refine x_iasW rfl hn (by omega) ?_ | refine x_iasA rfl hn (by exact rfl) (by omega) ?_
  refine x_al rfl rfl ?_
  refine x_get rfl (rw_md hn) (by exact rfl) ?_
  refine x_il rfl rfl ?_
  refine x_c rfl ?_
  refine x_addN (y := 3) rfl ?_
  refine x_c rfl ?_
  refine x_il rfl rfl ?_
  refine x_mulN (x := 4) rfl ?_
  refine x_addN rfl ?_
  refine x_il rfl rfl ?_
  first | refine x_iasW rfl hn (by omega) ?_ | refine x_iasA rfl hn (by exact rfl) (by omega) ?_
  refine x_al rfl rfl ?_
  refine x_get rfl (rw_md hn) (by exact rfl) ?_
  refine x_il rfl rfl ?_
  refine x_c rfl ?_
  refine x_addN (y := 4) rfl ?_
  refine x_c rfl ?_
  refine x_il rfl rfl ?_
  refine x_mulN (x := 4) rfl ?_
  refine x_addN rfl ?_
  refine x_il rfl rfl ?_
  first | refine x_iasW rfl hn (by omega) ?_ | refine x_iasA rfl hn (by exact rfl) (by omega) ?_
  refine x_al rfl rfl ?_
  refine x_get rfl (rw_md hn) (by exact rfl) ?_
  refine x_il rfl rfl ?_
  refine x_dup2 rfl rfl rfl ?_
  refine x_iaN rfl (by first | exact rw_md hn | exact rw_w hn | exact rw_A hn (by exact rfl) | exact rw_B2 hn | exact rw_B3 hn | assumption) (by omega) ?_
  refine x_eq (y := nI n) ?_ ?_
  · rw [pk_un (by omega), pk_un (by omega), pk_un (by omega), pk_un (by omega), hc]
  refine x_c rfl ?_
  refine x_addN (y := 1) rfl ?_
  first | refine x_iasW rfl hn (by omega) ?_ | refine x_iasA rfl hn (by exact rfl) (by omega) ?_
  refine x_il rfl rfl ?_
  refine x_reti rfl (Nat.le_of_ble_eq_true rfl) (Nat.le_of_ble_eq_true rfl) rfl ?_
  rw [if_neg c0, if_neg c0]
  exact ⟨rfl, rfl⟩
theorem r_point {p x y k h : Int32} {np : Nat} (hW : WP f) (hc : f 4 = nI np) (h60 : np ≤ 60) (hn : w.1 = N0) : Ev g (d + 3) 215 [.ref 1424, .int p, .int x, .int y, .int k, .int h] (rW w m f A B) (OpQ w m (if okN p np = true ∧ ptB x y k h = true ∧ ¬ f (5 + 97 * cN p + 64) = 8 then addF f (5 + 97 * cN p + 64) (cN (f (5 + 97 * cN p + 64))) x y k h else f) A (some (.int (if okN p np = true ∧ ptB x y k h = true then (if f (5 + 97 * cN p + 64) = 8 then -1 else f (5 + 97 * cN p + 64)) else 0))) (if okN p np = true then (if ptB x y k h = true then 0 else 2) else 1)) noX := by
  generalize hF : (if okN p np = true ∧ ptB x y k h = true ∧ ¬ f (5 + 97 * cN p + 64) = 8 then addF f (5 + 97 * cN p + 64) (cN (f (5 + 97 * cN p + 64))) x y k h else f) = F
  generalize hR : (if okN p np = true ∧ ptB x y k h = true then (if f (5 + 97 * cN p + 64) = 8 then -1 else f (5 + 97 * cN p + 64)) else 0) = R
  generalize hT : (if okN p np = true then (if ptB x y k h = true then (0 : Int32) else 2) else 1) = T
  refine ev_X11_point ?_ (Nat.le_of_ble_eq_true rfl)
  refine x_lo (lo' := [some (.ref 1424), some (.int p), some (.int x), some (.int y), some (.int k), some (.int h)]) rfl ?_
  refine x_al rfl rfl ?_
  refine x_c rfl ?_
  refine x_putM rfl hn rfl rfl rfl (mset_0 _ _) ?_
  refine x_al rfl rfl ?_
  refine x_al rfl rfl ?_
  refine x_il rfl rfl ?_
  refine x_call2 (n_noPrint hc (by omega) hn) rfl (Nat.le_of_ble_eq_true rfl) (Or.inl (by first | exact hn | assumption)) (rcv_at (by first | exact rw_md hn | exact rw_w hn | exact rw_A hn (by exact rfl) | exact rw_B2 hn | exact rw_B3 hn | assumption) (by decide) (by decide)) (Nat.le_of_ble_eq_true rfl) (Nat.le_of_ble_eq_true rfl) (fun E w9 hq => hq.elim) ?_
  rintro v9 w9 ⟨rfl, rfl⟩
  refine x_c rfl ?_
  refine x_call3 (n_throwsIf hn) rfl (Nat.le_of_ble_eq_true rfl) (Or.inl (by first | exact hn | assumption)) (rcv_at (by first | exact rw_md hn | exact rw_w hn | exact rw_A hn (by exact rfl) | exact rw_B2 hn | exact rw_B3 hn | assumption) (by decide) (by decide)) (Nat.le_of_ble_eq_true rfl) (Nat.le_of_ble_eq_true rfl) (fun E w9 hq => hq.elim) ?_
  rintro v9 w9 ⟨rfl, rfl⟩
  cases hb : okN p np with
  | false =>
    rw [hb] at hF hR hT
    rw [if_neg (fun h => absurd h.1 (by decide))] at hF hR
    rw [if_neg (by decide)] at hT
    subst hF; subst hR; subst hT
    refine x_ifne rfl (fun c => ?_) (fun c => absurd c (show ¬ (1 : Int32) = 0 by decide))
    refine x_c rfl ?_
    refine x_go rfl ?_
    refine x_reti rfl (Nat.le_of_ble_eq_true rfl) (Nat.le_of_ble_eq_true rfl) rfl ?_
    exact opq_t
  | true =>
    rw [hb] at hF hR hT
    obtain ⟨q, hq, rfl, hcn⟩ := ok_of hb (by omega)
    rw [if_pos rfl] at hT
    refine x_ifne rfl (fun c => absurd rfl c) (fun c => ?_)
    refine x_al rfl rfl ?_
    refine x_il rfl rfl ?_
    refine x_il rfl rfl ?_
    refine x_il rfl rfl ?_
    refine x_il rfl rfl ?_
    refine x_call4 (n_noPoint hn) rfl (Nat.le_of_ble_eq_true rfl) (Or.inl (by first | exact hn | assumption)) trivial (Nat.le_of_ble_eq_true rfl) (Nat.le_of_ble_eq_true rfl) (fun E w9 hq => hq.elim) ?_
    rintro v9 w9 ⟨rfl, rfl⟩
    refine x_c rfl ?_
    refine x_call3 (n_throwsIf hn) rfl (Nat.le_of_ble_eq_true rfl) (Or.inl (by first | exact hn | assumption)) (rcv_at (by first | exact rw_md hn | exact rw_w hn | exact rw_A hn (by exact rfl) | exact rw_B2 hn | exact rw_B3 hn | assumption) (by decide) (by decide)) (Nat.le_of_ble_eq_true rfl) (Nat.le_of_ble_eq_true rfl) (fun E w9 hq => hq.elim) ?_
    rintro v9 w9 ⟨rfl, rfl⟩
    cases hb2 : ptB x y k h with
    | false =>
      rw [hb2] at hF hR hT
      rw [if_neg (fun h => absurd h.2.1 (by decide))] at hF
      rw [if_neg (fun h => absurd h.2 (by decide))] at hR
      rw [if_neg (by decide)] at hT
      subst hF; subst hR; subst hT
      refine x_ifeq rfl (fun c => absurd c (show ¬ (1 : Int32) = 0 by decide)) (fun c => ?_)
      refine x_c rfl ?_
      refine x_go rfl ?_
      refine x_reti rfl (Nat.le_of_ble_eq_true rfl) (Nat.le_of_ble_eq_true rfl) rfl ?_
      exact opq_t
    | true =>
      rw [hb2, hcn] at hF hR
      rw [hb2, if_pos rfl] at hT
      rw [if_pos ⟨rfl, rfl⟩] at hR
      have h1 := hW.1 q (by omega)
      generalize hnq : cN (f (5 + 97 * q + 64)) = nq at *
      have e8 : f (5 + 97 * q + 64) = 8 ↔ nq = 8 := by rw [h1.1]; exact nI_eq (b := 8) (by omega) (by omega)
      refine x_ifeq rfl (fun c => ?_) (fun c => absurd rfl c)
      refine x_al rfl rfl ?_
      refine x_il rfl rfl ?_
      refine x_call1 (m_printAt) rfl (Nat.le_of_ble_eq_true rfl) (Or.inl (by first | exact hn | assumption)) trivial (Nat.le_of_ble_eq_true rfl) (Nat.le_of_ble_eq_true rfl) (fun E w9 hq => hq.elim) ?_
      rintro v9 w9 ⟨rfl, rfl⟩
      refine x_c rfl ?_
      refine x_addN (y := 64) rfl ?_
      refine x_il rfl rfl ?_
      refine x_il rfl rfl ?_
      refine x_il rfl rfl ?_
      refine x_il rfl rfl ?_
      refine x_call6 (n_adds (by omega) h1.1 h1.2 hn) rfl (Nat.le_of_ble_eq_true rfl) (Or.inl (by first | exact hn | assumption)) (rcv_at (by first | exact rw_md hn | exact rw_w hn | exact rw_A hn (by exact rfl) | exact rw_B2 hn | exact rw_B3 hn | assumption) (by decide) (by decide)) (Nat.le_of_ble_eq_true rfl) (Nat.le_of_ble_eq_true rfl) (fun E w9 hq => hq.elim) ?_
      rintro v9 w9 ⟨rfl, rfl⟩
      refine x_reti rfl (Nat.le_of_ble_eq_true rfl) (Nat.le_of_ble_eq_true rfl) rfl ?_
      subst hT
      by_cases h8 : nq = 8
      · rw [if_neg (fun h => h.2.2 (e8.mpr h8))] at hF
        rw [if_pos (e8.mpr h8)] at hR
        rw [if_pos h8, if_pos h8]
        subst hF; subst hR
        exact opq_s
      · rw [if_pos ⟨rfl, rfl, fun h => h8 (e8.mp h)⟩] at hF
        rw [if_neg (fun h => h8 (e8.mp h)), h1.1] at hR
        rw [if_neg h8, if_neg h8]
        subst hF; subst hR
        exact opq_s
theorem r_spot {p x y k h : Int32} {np : Nat} (hW : WP f) (hc : f 5825 = nI np) (h60 : np ≤ 20) (hn : w.1 = N0) : Ev g (d + 3) 219 [.ref 1424, .int p, .int x, .int y, .int k, .int h] (rW w m f A B) (OpQ w m (if okN p np = true ∧ ptB x y k h = true ∧ ¬ f (5826 + 39 * cN p + 6) = 8 then addF f (5826 + 39 * cN p + 6) (cN (f (5826 + 39 * cN p + 6))) x y k h else f) A (some (.int (if okN p np = true ∧ ptB x y k h = true then (if f (5826 + 39 * cN p + 6) = 8 then -1 else f (5826 + 39 * cN p + 6)) else 0))) (if okN p np = true then (if ptB x y k h = true then 0 else 2) else 1)) noX := by
  generalize hF : (if okN p np = true ∧ ptB x y k h = true ∧ ¬ f (5826 + 39 * cN p + 6) = 8 then addF f (5826 + 39 * cN p + 6) (cN (f (5826 + 39 * cN p + 6))) x y k h else f) = F
  generalize hR : (if okN p np = true ∧ ptB x y k h = true then (if f (5826 + 39 * cN p + 6) = 8 then -1 else f (5826 + 39 * cN p + 6)) else 0) = R
  generalize hT : (if okN p np = true then (if ptB x y k h = true then (0 : Int32) else 2) else 1) = T
  refine ev_X11_spot ?_ (Nat.le_of_ble_eq_true rfl)
  refine x_lo (lo' := [some (.ref 1424), some (.int p), some (.int x), some (.int y), some (.int k), some (.int h)]) rfl ?_
  refine x_al rfl rfl ?_
  refine x_c rfl ?_
  refine x_putM rfl hn rfl rfl rfl (mset_0 _ _) ?_
  refine x_al rfl rfl ?_
  refine x_al rfl rfl ?_
  refine x_il rfl rfl ?_
  refine x_call2 (n_noMark hc (by omega) hn) rfl (Nat.le_of_ble_eq_true rfl) (Or.inl (by first | exact hn | assumption)) (rcv_at (by first | exact rw_md hn | exact rw_w hn | exact rw_A hn (by exact rfl) | exact rw_B2 hn | exact rw_B3 hn | assumption) (by decide) (by decide)) (Nat.le_of_ble_eq_true rfl) (Nat.le_of_ble_eq_true rfl) (fun E w9 hq => hq.elim) ?_
  rintro v9 w9 ⟨rfl, rfl⟩
  refine x_c rfl ?_
  refine x_call3 (n_throwsIf hn) rfl (Nat.le_of_ble_eq_true rfl) (Or.inl (by first | exact hn | assumption)) (rcv_at (by first | exact rw_md hn | exact rw_w hn | exact rw_A hn (by exact rfl) | exact rw_B2 hn | exact rw_B3 hn | assumption) (by decide) (by decide)) (Nat.le_of_ble_eq_true rfl) (Nat.le_of_ble_eq_true rfl) (fun E w9 hq => hq.elim) ?_
  rintro v9 w9 ⟨rfl, rfl⟩
  cases hb : okN p np with
  | false =>
    rw [hb] at hF hR hT
    rw [if_neg (fun h => absurd h.1 (by decide))] at hF hR
    rw [if_neg (by decide)] at hT
    subst hF; subst hR; subst hT
    refine x_ifne rfl (fun c => ?_) (fun c => absurd c (show ¬ (1 : Int32) = 0 by decide))
    refine x_c rfl ?_
    refine x_go rfl ?_
    refine x_reti rfl (Nat.le_of_ble_eq_true rfl) (Nat.le_of_ble_eq_true rfl) rfl ?_
    exact opq_t
  | true =>
    rw [hb] at hF hR hT
    obtain ⟨q, hq, rfl, hcn⟩ := ok_of hb (by omega)
    rw [if_pos rfl] at hT
    refine x_ifne rfl (fun c => absurd rfl c) (fun c => ?_)
    refine x_al rfl rfl ?_
    refine x_il rfl rfl ?_
    refine x_il rfl rfl ?_
    refine x_il rfl rfl ?_
    refine x_il rfl rfl ?_
    refine x_call4 (n_noPoint hn) rfl (Nat.le_of_ble_eq_true rfl) (Or.inl (by first | exact hn | assumption)) trivial (Nat.le_of_ble_eq_true rfl) (Nat.le_of_ble_eq_true rfl) (fun E w9 hq => hq.elim) ?_
    rintro v9 w9 ⟨rfl, rfl⟩
    refine x_c rfl ?_
    refine x_call3 (n_throwsIf hn) rfl (Nat.le_of_ble_eq_true rfl) (Or.inl (by first | exact hn | assumption)) (rcv_at (by first | exact rw_md hn | exact rw_w hn | exact rw_A hn (by exact rfl) | exact rw_B2 hn | exact rw_B3 hn | assumption) (by decide) (by decide)) (Nat.le_of_ble_eq_true rfl) (Nat.le_of_ble_eq_true rfl) (fun E w9 hq => hq.elim) ?_
    rintro v9 w9 ⟨rfl, rfl⟩
    cases hb2 : ptB x y k h with
    | false =>
      rw [hb2] at hF hR hT
      rw [if_neg (fun h => absurd h.2.1 (by decide))] at hF
      rw [if_neg (fun h => absurd h.2 (by decide))] at hR
      rw [if_neg (by decide)] at hT
      subst hF; subst hR; subst hT
      refine x_ifeq rfl (fun c => absurd c (show ¬ (1 : Int32) = 0 by decide)) (fun c => ?_)
      refine x_c rfl ?_
      refine x_go rfl ?_
      refine x_reti rfl (Nat.le_of_ble_eq_true rfl) (Nat.le_of_ble_eq_true rfl) rfl ?_
      exact opq_t
    | true =>
      rw [hb2, hcn] at hF hR
      rw [hb2, if_pos rfl] at hT
      rw [if_pos ⟨rfl, rfl⟩] at hR
      have h1 := hW.2 q (by omega)
      generalize hnq : cN (f (5826 + 39 * q + 6)) = nq at *
      have e8 : f (5826 + 39 * q + 6) = 8 ↔ nq = 8 := by rw [h1.1]; exact nI_eq (b := 8) (by omega) (by omega)
      refine x_ifeq rfl (fun c => ?_) (fun c => absurd rfl c)
      refine x_al rfl rfl ?_
      refine x_il rfl rfl ?_
      refine x_c rfl ?_
      refine x_call2 (m_markAt (k := 6)) rfl (Nat.le_of_ble_eq_true rfl) (Or.inl (by first | exact hn | assumption)) trivial (Nat.le_of_ble_eq_true rfl) (Nat.le_of_ble_eq_true rfl) (fun E w9 hq => hq.elim) ?_
      rintro v9 w9 ⟨rfl, rfl⟩
      refine x_il rfl rfl ?_
      refine x_il rfl rfl ?_
      refine x_il rfl rfl ?_
      refine x_il rfl rfl ?_
      refine x_call6 (n_adds (by omega) h1.1 h1.2 hn) rfl (Nat.le_of_ble_eq_true rfl) (Or.inl (by first | exact hn | assumption)) (rcv_at (by first | exact rw_md hn | exact rw_w hn | exact rw_A hn (by exact rfl) | exact rw_B2 hn | exact rw_B3 hn | assumption) (by decide) (by decide)) (Nat.le_of_ble_eq_true rfl) (Nat.le_of_ble_eq_true rfl) (fun E w9 hq => hq.elim) ?_
      rintro v9 w9 ⟨rfl, rfl⟩
      refine x_reti rfl (Nat.le_of_ble_eq_true rfl) (Nat.le_of_ble_eq_true rfl) rfl ?_
      subst hT
      by_cases h8 : nq = 8
      · rw [if_neg (fun h => h.2.2 (e8.mpr h8))] at hF
        rw [if_pos (e8.mpr h8)] at hR
        rw [if_pos h8, if_pos h8]
        subst hF; subst hR
        exact opq_s
      · rw [if_pos ⟨rfl, rfl, fun h => h8 (e8.mp h)⟩] at hF
        rw [if_neg (fun h => h8 (e8.mp h)), h1.1] at hR
        rw [if_neg h8, if_neg h8]
        subst hF; subst hR
        exact opq_s
theorem r_tell {x y : Int32} {nc : Nat} (hc : f 6606 = nI nc) (hnc : nc ≤ 16) (hn : w.1 = N0) : Ev g (d + 3) 270 [.ref 1424, .int x, .int y] (rW w m f A B) (OpQ w m (if okN x nc = true ∧ okN y 3 = true ∧ f (6607 + 26 * cN x + (3 + cN y)) < 0 then upd f (6607 + 26 * cN x + (3 + cN y)) (f 0) else f) A (some (.int (bI (decide (okN x nc = true ∧ okN y 3 = true ∧ f (6607 + 26 * cN x + (3 + cN y)) < 0))))) (if okN x nc = true then (if okN y 3 = true then 0 else 2) else 1)) noX := by
  refine ev_X11_tell ?_ (Nat.le_of_ble_eq_true rfl)
  refine x_lo (lo' := [some (.ref 1424), some (.int x), some (.int y)]) rfl ?_
  refine x_al rfl rfl ?_
  refine x_c rfl ?_
  refine x_putM rfl hn rfl rfl rfl (mset_0 _ _) ?_
  refine x_al rfl rfl ?_
  refine x_al rfl rfl ?_
  refine x_il rfl rfl ?_
  refine x_call2 (n_noCard hc (by omega) hn) rfl (Nat.le_of_ble_eq_true rfl) (Or.inl (by first | exact hn | assumption)) (rcv_at (by first | exact rw_md hn | exact rw_w hn | exact rw_A hn (by exact rfl) | exact rw_B2 hn | exact rw_B3 hn | assumption) (by decide) (by decide)) (Nat.le_of_ble_eq_true rfl) (Nat.le_of_ble_eq_true rfl) (fun E w9 hq => hq.elim) ?_
  rintro v9 w9 ⟨rfl, rfl⟩
  refine x_c rfl ?_
  refine x_call3 (n_throwsIf hn) rfl (Nat.le_of_ble_eq_true rfl) (Or.inl (by first | exact hn | assumption)) (rcv_at (by first | exact rw_md hn | exact rw_w hn | exact rw_A hn (by exact rfl) | exact rw_B2 hn | exact rw_B3 hn | assumption) (by decide) (by decide)) (Nat.le_of_ble_eq_true rfl) (Nat.le_of_ble_eq_true rfl) (fun E w9 hq => hq.elim) ?_
  rintro v9 w9 ⟨rfl, rfl⟩
  cases hb : okN x nc with
  | false =>
    rw [if_neg (fun h => absurd h.1 (by decide)), bI_f (fun h => absurd h.1 (by decide)), if_neg (by decide)]
    refine x_ifne rfl (fun c => ?_) (fun c => absurd c (show ¬ (1 : Int32) = 0 by decide))
    refine x_c rfl ?_
    refine x_retz rfl (Nat.le_of_ble_eq_true rfl) (Nat.le_of_ble_eq_true rfl) rfl (by first | rfl | assumption) ?_
    exact opq_t
  | true =>
    obtain ⟨p, hp, rfl, hcn⟩ := ok_of hb (by omega)
    refine x_ifne rfl (fun c => absurd rfl c) (fun c => ?_)
    refine x_al rfl rfl ?_
    refine x_il rfl rfl ?_
    refine x_c rfl ?_
    refine x_c rfl ?_
    refine x_call3 (n_inN (n := 3) 2 (by decide) (by decide)) rfl (Nat.le_of_ble_eq_true rfl) (Or.inl (by first | exact hn | assumption)) trivial (Nat.le_of_ble_eq_true rfl) (Nat.le_of_ble_eq_true rfl) (fun E w9 hq => hq.elim) ?_
    rintro v9 w9 ⟨rfl, rfl⟩
    cases hb2 : okN y 3 with
    | false =>
      rw [if_neg (fun h => absurd h.2.1 (by decide)), bI_f (fun h => absurd h.2.1 (by decide)), if_pos rfl, if_neg (by decide)]
      refine x_ifne rfl (fun c => absurd rfl c) (fun c => ?_)
      refine x_c rfl ?_
      refine x_go rfl ?_
      refine x_c rfl ?_
      refine x_call3 (n_throwsIf (b := true) hn) rfl (Nat.le_of_ble_eq_true rfl) (Or.inl (by first | exact hn | assumption)) (rcv_at (by first | exact rw_md hn | exact rw_w hn | exact rw_A hn (by exact rfl) | exact rw_B2 hn | exact rw_B3 hn | assumption) (by decide) (by decide)) (Nat.le_of_ble_eq_true rfl) (Nat.le_of_ble_eq_true rfl) (fun E w9 hq => hq.elim) ?_
      rintro v9 w9 ⟨rfl, rfl⟩
      refine x_ifne rfl (fun c => ?_) (fun c => absurd c (show ¬ (1 : Int32) = 0 by decide))
      refine x_c rfl ?_
      refine x_retz rfl (Nat.le_of_ble_eq_true rfl) (Nat.le_of_ble_eq_true rfl) rfl (by first | rfl | assumption) ?_
      exact opq_t
    | true =>
      obtain ⟨q, hq, rfl, hcn2⟩ := ok_of hb2 (by omega)
      rw [hcn, hcn2, if_pos rfl, if_pos rfl]
      refine x_ifne rfl (fun c => ?_) (fun c => absurd c (show ¬ (1 : Int32) = 0 by decide))
      refine x_c rfl ?_
      refine x_c rfl ?_
      refine x_call3 (n_throwsIf (b := false) hn) rfl (Nat.le_of_ble_eq_true rfl) (Or.inl (by first | exact hn | assumption)) (rcv_at (by first | exact rw_md hn | exact rw_w hn | exact rw_A hn (by exact rfl) | exact rw_B2 hn | exact rw_B3 hn | assumption) (by decide) (by decide)) (Nat.le_of_ble_eq_true rfl) (Nat.le_of_ble_eq_true rfl) (fun E w9 hq => hq.elim) ?_
      rintro v9 w9 ⟨rfl, rfl⟩
      refine x_ifne rfl (fun c => absurd rfl c) (fun c => ?_)
      refine x_al rfl rfl ?_
      refine x_il rfl rfl ?_
      refine x_c rfl ?_
      refine x_il rfl rfl ?_
      refine x_addN (x := 3) rfl ?_
      refine x_call3 (n_of (by omega) hn) rfl (Nat.le_of_ble_eq_true rfl) (Or.inl (by first | exact hn | assumption)) (rcv_at (by first | exact rw_md hn | exact rw_w hn | exact rw_A hn (by exact rfl) | exact rw_B2 hn | exact rw_B3 hn | assumption) (by decide) (by decide)) (Nat.le_of_ble_eq_true rfl) (Nat.le_of_ble_eq_true rfl) (fun E w9 hq => hq.elim) ?_
      rintro v9 w9 ⟨rfl, rfl⟩
      refine x_iflt rfl (fun c1 => ?_) (fun c1 => ?_)
      rotate_left
      · skip
        rw [if_neg (fun h => absurd h.2.2 (Int32.not_lt.mpr (Int32.not_lt.mp c1))), bI_f (fun h => c1 h.2.2)]
        refine x_c rfl ?_
        refine x_retz rfl (Nat.le_of_ble_eq_true rfl) (Nat.le_of_ble_eq_true rfl) rfl (by first | rfl | assumption) ?_
        exact opq_s
      refine x_al rfl rfl ?_
      refine x_get rfl (rw_md hn) (by exact rfl) ?_
      refine x_il rfl rfl ?_
      refine x_c rfl ?_
      refine x_il rfl rfl ?_
      refine x_addN (x := 3) rfl ?_
      rw [if_pos ⟨rfl, rfl, c1⟩, bI_t ⟨rfl, rfl, c1⟩]
      refine x_call2 (m_cardAt) rfl (Nat.le_of_ble_eq_true rfl) (Or.inl (by first | exact hn | assumption)) trivial (Nat.le_of_ble_eq_true rfl) (Nat.le_of_ble_eq_true rfl) (fun E w9 hq => hq.elim) ?_
      rintro v9 w9 ⟨rfl, rfl⟩
      refine x_al rfl rfl ?_
      refine x_call1 (n_today hn) rfl (Nat.le_of_ble_eq_true rfl) (Or.inl (by first | exact hn | assumption)) (rcv_at (by first | exact rw_md hn | exact rw_w hn | exact rw_A hn (by exact rfl) | exact rw_B2 hn | exact rw_B3 hn | assumption) (by decide) (by decide)) (Nat.le_of_ble_eq_true rfl) (Nat.le_of_ble_eq_true rfl) (fun E w9 hq => hq.elim) ?_
      rintro v9 w9 ⟨rfl, rfl⟩
      first | refine x_iasW rfl hn (by omega) ?_ | refine x_iasA rfl hn (by exact rfl) (by omega) ?_
      refine x_c rfl ?_
      refine x_retz rfl (Nat.le_of_ble_eq_true rfl) (Nat.le_of_ble_eq_true rfl) rfl (by first | rfl | assumption) ?_
      exact opq_s
end CALLS
