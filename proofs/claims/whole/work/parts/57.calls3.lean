/-! more calls: said, proved, lay, hit, left, slack, desk, days; mset_ -/
section CALLS
variable {g : aG} {d : Nat} {w : aW} {m f : Nat → Int32} {A : Nat → Nat → Int32} {B : Nat → Nat → Int64}
theorem r_slack {x : Int32} (hn : w.1 = N0) : Ev g (d + 2) 220 [.ref 1424, .int x] (rW w m f A B) (OpQ w m (if okN x 9 = true then upd f 1 x else f) A none (if okN x 9 = true then 0 else 1)) noX := by
  refine ev_X11_slack ?_ (Nat.le_of_ble_eq_true rfl)
  refine x_lo (lo' := [some (.ref 1424), some (.int x)]) rfl ?_
  refine x_al rfl rfl ?_
  refine x_c rfl ?_
  refine x_putM rfl hn rfl rfl rfl (mset_0 _ _) ?_
  refine x_al rfl rfl ?_
  refine x_il rfl rfl ?_
  refine x_c rfl ?_
  refine x_c rfl ?_
  refine x_call3 (n_inN (n := 9) 8 (by decide) (by decide)) rfl (Nat.le_of_ble_eq_true rfl) (Or.inl (by first | exact hn | assumption)) trivial (Nat.le_of_ble_eq_true rfl) (Nat.le_of_ble_eq_true rfl) (fun E w9 hq => hq.elim) ?_
  rintro v9 w9 ⟨rfl, rfl⟩
  cases hb : okN x 9 with
  | false =>
    refine x_ifne rfl (fun c => absurd rfl c) (fun c => ?_)
    refine x_c rfl ?_
    refine x_go rfl ?_
    refine x_c rfl ?_
    refine x_call3 (n_throwsIf (b := true) hn) rfl (Nat.le_of_ble_eq_true rfl) (Or.inl (by first | exact hn | assumption)) (rcv_at (by first | exact rw_md hn | exact rw_w hn | exact rw_A hn (by exact rfl) | exact rw_B2 hn | exact rw_B3 hn | assumption) (by decide) (by decide)) (Nat.le_of_ble_eq_true rfl) (Nat.le_of_ble_eq_true rfl) (fun E w9 hq => hq.elim) ?_
    rintro v9 w9 ⟨rfl, rfl⟩
    refine x_ifeq rfl (fun c => absurd c (show ¬ (1 : Int32) = 0 by decide)) (fun c => ?_)
    refine x_retv rfl (Nat.le_of_ble_eq_true rfl) (Nat.le_of_ble_eq_true rfl) rfl ?_
    exact opq_t
  | true =>
    refine x_ifne rfl (fun c => ?_) (fun c => absurd c (show ¬ (1 : Int32) = 0 by decide))
    refine x_c rfl ?_
    refine x_c rfl ?_
    refine x_call3 (n_throwsIf (b := false) hn) rfl (Nat.le_of_ble_eq_true rfl) (Or.inl (by first | exact hn | assumption)) (rcv_at (by first | exact rw_md hn | exact rw_w hn | exact rw_A hn (by exact rfl) | exact rw_B2 hn | exact rw_B3 hn | assumption) (by decide) (by decide)) (Nat.le_of_ble_eq_true rfl) (Nat.le_of_ble_eq_true rfl) (fun E w9 hq => hq.elim) ?_
    rintro v9 w9 ⟨rfl, rfl⟩
    refine x_ifeq rfl (fun c => ?_) (fun c => absurd rfl c)
    refine x_al rfl rfl ?_
    refine x_get rfl (rw_md hn) (by exact rfl) ?_
    refine x_c rfl ?_
    refine x_il rfl rfl ?_
    first | refine x_iasW (j := 1) rfl hn (by omega) ?_ | refine x_iasA (j := 1) rfl hn (by exact rfl) (by omega) ?_
    refine x_retv rfl (Nat.le_of_ble_eq_true rfl) (Nat.le_of_ble_eq_true rfl) rfl ?_
    exact opq_s
theorem r_desk {x : Int32} (hn : w.1 = N0) : Ev g (d + 2) 282 [.ref 1424, .int x] (rW w m f A B) (OpQ w m (if okN x 61 = true then upd f 2 x else f) A none (if okN x 61 = true then 0 else 1)) noX := by
  refine ev_X11_desk ?_ (Nat.le_of_ble_eq_true rfl)
  refine x_lo (lo' := [some (.ref 1424), some (.int x)]) rfl ?_
  refine x_al rfl rfl ?_
  refine x_c rfl ?_
  refine x_putM rfl hn rfl rfl rfl (mset_0 _ _) ?_
  refine x_al rfl rfl ?_
  refine x_il rfl rfl ?_
  refine x_c rfl ?_
  refine x_c rfl ?_
  refine x_call3 (n_inN (n := 61) 60 (by decide) (by decide)) rfl (Nat.le_of_ble_eq_true rfl) (Or.inl (by first | exact hn | assumption)) trivial (Nat.le_of_ble_eq_true rfl) (Nat.le_of_ble_eq_true rfl) (fun E w9 hq => hq.elim) ?_
  rintro v9 w9 ⟨rfl, rfl⟩
  cases hb : okN x 61 with
  | false =>
    refine x_ifne rfl (fun c => absurd rfl c) (fun c => ?_)
    refine x_c rfl ?_
    refine x_go rfl ?_
    refine x_c rfl ?_
    refine x_call3 (n_throwsIf (b := true) hn) rfl (Nat.le_of_ble_eq_true rfl) (Or.inl (by first | exact hn | assumption)) (rcv_at (by first | exact rw_md hn | exact rw_w hn | exact rw_A hn (by exact rfl) | exact rw_B2 hn | exact rw_B3 hn | assumption) (by decide) (by decide)) (Nat.le_of_ble_eq_true rfl) (Nat.le_of_ble_eq_true rfl) (fun E w9 hq => hq.elim) ?_
    rintro v9 w9 ⟨rfl, rfl⟩
    refine x_ifeq rfl (fun c => absurd c (show ¬ (1 : Int32) = 0 by decide)) (fun c => ?_)
    refine x_retv rfl (Nat.le_of_ble_eq_true rfl) (Nat.le_of_ble_eq_true rfl) rfl ?_
    exact opq_t
  | true =>
    refine x_ifne rfl (fun c => ?_) (fun c => absurd c (show ¬ (1 : Int32) = 0 by decide))
    refine x_c rfl ?_
    refine x_c rfl ?_
    refine x_call3 (n_throwsIf (b := false) hn) rfl (Nat.le_of_ble_eq_true rfl) (Or.inl (by first | exact hn | assumption)) (rcv_at (by first | exact rw_md hn | exact rw_w hn | exact rw_A hn (by exact rfl) | exact rw_B2 hn | exact rw_B3 hn | assumption) (by decide) (by decide)) (Nat.le_of_ble_eq_true rfl) (Nat.le_of_ble_eq_true rfl) (fun E w9 hq => hq.elim) ?_
    rintro v9 w9 ⟨rfl, rfl⟩
    refine x_ifeq rfl (fun c => ?_) (fun c => absurd rfl c)
    refine x_al rfl rfl ?_
    refine x_get rfl (rw_md hn) (by exact rfl) ?_
    refine x_c rfl ?_
    refine x_il rfl rfl ?_
    first | refine x_iasW (j := 2) rfl hn (by omega) ?_ | refine x_iasA (j := 2) rfl hn (by exact rfl) (by omega) ?_
    refine x_retv rfl (Nat.le_of_ble_eq_true rfl) (Nat.le_of_ble_eq_true rfl) rfl ?_
    exact opq_s
theorem r_left {x : Int32} {nm nc : Nat} (hc : f 5825 = nI nm) (hnm : nm ≤ 20) (h6 : f 6606 = nI nc) (hnc : nc ≤ 16) (hn : w.1 = N0) : Ev g (d + 5) 291 [.ref 1424, .int x] (rW w m f A B) (OpQ w m f A (some (.int (if okN x nm = true then nI (cn (fun k => decide (wtP f (cN x) k)) (10 * nc)) else 0))) (if okN x nm = true then 0 else 1)) noX := by
  refine ev_X11_left ?_ (Nat.le_of_ble_eq_true rfl)
  refine x_lo (lo' := [some (.ref 1424), some (.int x), none, none]) rfl ?_
  refine x_al rfl rfl ?_
  refine x_c rfl ?_
  refine x_putM rfl hn rfl rfl rfl (mset_0 _ _) ?_
  refine x_al rfl rfl ?_
  refine x_al rfl rfl ?_
  refine x_il rfl rfl ?_
  refine x_call2 (n_noMark hc (by omega) hn) rfl (Nat.le_of_ble_eq_true rfl) (Or.inl (by first | exact hn | assumption)) (rcv_at (by first | exact rw_md hn | exact rw_w hn | exact rw_A hn (by exact rfl) | exact rw_B2 hn | exact rw_B3 hn | assumption) (by decide) (by decide)) (Nat.le_of_ble_eq_true rfl) (Nat.le_of_ble_eq_true rfl) (fun E w9 hq => hq.elim) ?_
  rintro v9 w9 ⟨rfl, rfl⟩
  refine x_c rfl ?_
  refine x_call3 (n_throwsIf hn) rfl (Nat.le_of_ble_eq_true rfl) (Or.inl (by first | exact hn | assumption)) (rcv_at (by first | exact rw_md hn | exact rw_w hn | exact rw_A hn (by exact rfl) | exact rw_B2 hn | exact rw_B3 hn | assumption) (by decide) (by decide)) (Nat.le_of_ble_eq_true rfl) (Nat.le_of_ble_eq_true rfl) (fun E w9 hq => hq.elim) ?_
  rintro v9 w9 ⟨rfl, rfl⟩
  cases hb : okN x nm with
  | false =>
    refine x_ifeq rfl (fun c => absurd c (show ¬ (1 : Int32) = 0 by decide)) (fun c => ?_)
    refine x_c rfl ?_
    refine x_reti rfl (Nat.le_of_ble_eq_true rfl) (Nat.le_of_ble_eq_true rfl) rfl ?_
    exact opq_t
  | true =>
    obtain ⟨p, hp, rfl, hcn⟩ := ok_of hb (by omega)
    refine x_ifeq rfl (fun c => ?_) (fun c => absurd rfl c)
    refine x_c rfl ?_
    refine x_is (lo' := [_, _, _, _]) rfl (Nat.le_of_ble_eq_true rfl) rfl ?_
    refine x_c rfl ?_
    refine x_is (lo' := [_, _, _, _]) rfl (Nat.le_of_ble_eq_true rfl) rfl ?_
    rw [hcn, if_pos rfl, if_pos rfl]
    have loop : ∀ k, k ≤ 10 * nc → EX g mbOf (Ev g (d + 4)) (infoOf 291) k_X11_left (OpQ w m f A (some (.int (nI (cn (fun k => decide (wtP f p k)) (10 * nc))))) 0) noX w.1 (rW w (upd m 0 0) f A B) 0 0 16 [some (.ref 1424), some (.int (nI p)), some (.int (nI (cn (fun k => decide (wtP f p k)) k))), some (.int (nI k))] [] := by
      refine downN (10 * nc) fun k hk ih => ?_
      refine x_il rfl rfl ?_
      refine x_c rfl ?_
      refine x_al rfl rfl ?_
      refine x_get rfl (rw_md hn) (by exact rfl) ?_
      refine x_c rfl ?_
      refine x_iaN (j := 6606) rfl (by first | exact rw_md hn | exact rw_w hn | exact rw_A hn (by exact rfl) | exact rw_B2 hn | exact rw_B3 hn | assumption) (by omega) ?_
      rw [h6]
      refine x_mulN (x := 10) rfl ?_
      refine x_icgeN rfl (by omega) (fun c0 => ?_) (fun c0 => ?_)
      · refine x_il rfl rfl ?_
        refine x_reti rfl (Nat.le_of_ble_eq_true rfl) (Nat.le_of_ble_eq_true rfl) rfl ?_
        obtain rfl : k = 10 * nc := by omega
        exact opq_s
      refine x_il rfl rfl ?_
      refine x_al rfl rfl ?_
      refine x_il rfl rfl ?_
      refine x_il rfl rfl ?_
      have ih := ih c0
      have hst : cn (fun k => decide (wtP f p k)) (k + 1) = cn (fun k => decide (wtP f p k)) k + if decide (wtP f p k) = true then 1 else 0 := rfl
      rw [hst] at ih
      refine x_call3 (n_isWaiting (by omega) (by omega) hn) rfl (Nat.le_of_ble_eq_true rfl) (Or.inl (by first | exact hn | assumption)) (rcv_at (by first | exact rw_md hn | exact rw_w hn | exact rw_A hn (by exact rfl) | exact rw_B2 hn | exact rw_B3 hn | assumption) (by decide) (by decide)) (Nat.le_of_ble_eq_true rfl) (Nat.le_of_ble_eq_true rfl) (fun E w9 hq => hq.elim) ?_
      rintro v9 w9 ⟨rfl, rfl⟩
      refine x_ifeqB rfl (fun c1 => ?_) (fun c1 => ?_)
      · refine x_c rfl ?_
        rw [if_neg (by rw [decide_eq_true_iff]; exact c1)] at ih
        refine x_addN (y := 0) rfl ?_
        refine x_is (lo' := [_, _, _, _]) rfl (Nat.le_of_ble_eq_true rfl) rfl ?_
        refine x_inc1 (lo' := [_, _, _, _]) rfl rfl rfl ?_
        refine x_go rfl ?_
        exact ih
      refine x_c rfl ?_
      refine x_go rfl ?_
      rw [if_pos (by rw [decide_eq_true_iff]; exact c1)] at ih
      refine x_addN (y := 1) rfl ?_
      refine x_is (lo' := [_, _, _, _]) rfl (Nat.le_of_ble_eq_true rfl) rfl ?_
      refine x_inc1 (lo' := [_, _, _, _]) rfl rfl rfl ?_
      refine x_go rfl ?_
      exact ih
    exact loop 0 (Nat.zero_le _)
theorem r_hit {x y : Int32} {nh : Nat} (hc : f 11424 = nI nh) (h200 : nh ≤ 200) (hn : w.1 = N0) : Ev g (d + 2) 290 [.ref 1424, .int x, .int y] (rW w m f A B) (OpQ w m f A (some (.int (if okN x nh = true ∧ okN y 6 = true then f (11425 + 7 * cN x + cN y) else 0))) (if okN x nh = true ∧ okN y 6 = true then 0 else 1)) noX := by
  generalize hR : (if okN x nh = true ∧ okN y 6 = true then f (11425 + 7 * cN x + cN y) else 0) = R
  generalize hT1 : (if okN x nh = true ∧ okN y 6 = true then (0 : Int32) else 1) = T
  refine ev_X11_hit ?_ (Nat.le_of_ble_eq_true rfl)
  refine x_lo (lo' := [some (.ref 1424), some (.int x), some (.int y)]) rfl ?_
  refine x_al rfl rfl ?_
  refine x_c rfl ?_
  refine x_putM rfl hn rfl rfl rfl (mset_0 _ _) ?_
  refine x_al rfl rfl ?_
  refine x_il rfl rfl ?_
  refine x_c rfl ?_
  refine x_al rfl rfl ?_
  refine x_get rfl (rw_md hn) (by exact rfl) ?_
  refine x_c rfl ?_
  refine x_iaN (j := 11424) rfl (by first | exact rw_md hn | exact rw_w hn | exact rw_A hn (by exact rfl) | exact rw_B2 hn | exact rw_B3 hn | assumption) (by omega) ?_
  rw [hc]
  refine x_c rfl ?_
  refine x_sub rfl ?_
  refine x_call3 (n_inN (n := nh) _ rfl (by omega)) rfl (Nat.le_of_ble_eq_true rfl) (Or.inl (by first | exact hn | assumption)) trivial (Nat.le_of_ble_eq_true rfl) (Nat.le_of_ble_eq_true rfl) (fun E w9 hq => hq.elim) ?_
  rintro v9 w9 ⟨rfl, rfl⟩
  have thrown : ¬ (okN x nh = true ∧ okN y 6 = true) → EX g mbOf (Ev g (d + 1)) (infoOf 290) k_X11_hit (OpQ w m f A (some (.int R)) T) noX w.1 (rW w (upd m 0 0) f A B) 0 0 22 [some (.ref 1424), some (.int x), some (.int y)] [.int (bI true), .ref 1424] := by
    intro h
    rw [← hR, ← hT1, if_neg h, if_neg h]
    refine x_c rfl ?_
    refine x_call3 (n_throwsIf hn) rfl (Nat.le_of_ble_eq_true rfl) (Or.inl (by first | exact hn | assumption)) (rcv_at (by first | exact rw_md hn | exact rw_w hn | exact rw_A hn (by exact rfl) | exact rw_B2 hn | exact rw_B3 hn | assumption) (by decide) (by decide)) (Nat.le_of_ble_eq_true rfl) (Nat.le_of_ble_eq_true rfl) (fun E w9 hq => hq.elim) ?_
    rintro v9 w9 ⟨rfl, rfl⟩
    refine x_ifeq rfl (fun c => absurd c (show ¬ (1 : Int32) = 0 by decide)) (fun c => ?_)
    refine x_c rfl ?_
    refine x_go rfl ?_
    refine x_reti rfl (Nat.le_of_ble_eq_true rfl) (Nat.le_of_ble_eq_true rfl) rfl ?_
    exact opq_t
  cases hb : okN x nh with
  | false =>
    rw [hb] at thrown
    refine x_ifeq rfl (fun c => ?_) (fun c => absurd rfl c)
    refine x_c rfl ?_
    refine x_go rfl ?_
    exact thrown (fun h => absurd h.1 (by decide))
  | true =>
    rw [hb] at thrown
    obtain ⟨p, hp, rfl, hcn⟩ := ok_of hb (by omega)
    refine x_ifeq rfl (fun c => absurd c (show ¬ (1 : Int32) = 0 by decide)) (fun c => ?_)
    refine x_il rfl rfl ?_
    refine x_c rfl ?_
    refine x_c rfl ?_
    refine x_call3 (n_inN (n := 6) 5 (by decide) (by decide)) rfl (Nat.le_of_ble_eq_true rfl) (Or.inl (by first | exact hn | assumption)) trivial (Nat.le_of_ble_eq_true rfl) (Nat.le_of_ble_eq_true rfl) (fun E w9 hq => hq.elim) ?_
    rintro v9 w9 ⟨rfl, rfl⟩
    cases hb2 : okN y 6 with
    | false =>
      rw [hb2] at thrown
      refine x_ifne rfl (fun c => absurd rfl c) (fun c => ?_)
      refine x_c rfl ?_
      refine x_go rfl ?_
      exact thrown (fun h => absurd h.2 (by decide))
    | true =>
      rw [hb, hb2, if_pos ⟨rfl, rfl⟩] at hR hT1
      obtain ⟨q, hq, rfl, hcn2⟩ := ok_of hb2 (by omega)
      refine x_ifne rfl (fun c => ?_) (fun c => absurd c (show ¬ (1 : Int32) = 0 by decide))
      refine x_c rfl ?_
      refine x_c rfl ?_
      refine x_call3 (n_throwsIf (b := false) hn) rfl (Nat.le_of_ble_eq_true rfl) (Or.inl (by first | exact hn | assumption)) (rcv_at (by first | exact rw_md hn | exact rw_w hn | exact rw_A hn (by exact rfl) | exact rw_B2 hn | exact rw_B3 hn | assumption) (by decide) (by decide)) (Nat.le_of_ble_eq_true rfl) (Nat.le_of_ble_eq_true rfl) (fun E w9 hq => hq.elim) ?_
      rintro v9 w9 ⟨rfl, rfl⟩
      refine x_ifeq rfl (fun c => ?_) (fun c => absurd rfl c)
      refine x_al rfl rfl ?_
      refine x_get rfl (rw_md hn) (by exact rfl) ?_
      refine x_c rfl ?_
      refine x_c rfl ?_
      refine x_il rfl rfl ?_
      refine x_mulN (x := 7) rfl ?_
      refine x_addN (x := 11425) rfl ?_
      refine x_il rfl rfl ?_
      refine x_addN rfl ?_
      refine x_iaN rfl (by first | exact rw_md hn | exact rw_w hn | exact rw_A hn (by exact rfl) | exact rw_B2 hn | exact rw_B3 hn | assumption) (by omega) ?_
      refine x_reti rfl (Nat.le_of_ble_eq_true rfl) (Nat.le_of_ble_eq_true rfl) rfl ?_
      rw [← hR, ← hT1, hcn, hcn2]
      exact opq_s
/-- one day after the other -/
def dayF (n nc nm ns : Nat) (f : Nat → Int32) : Nat → Int32 := strikesF (desksF (upd f 0 (f 0 + 1)) n nc nm ns) n nc
def daysF (n nc nm ns : Nat) : Nat → (Nat → Int32) → Nat → Int32
  | 0, f => f
  | k + 1, f => if f 0 < 2000 then daysF n nc nm ns k (dayF n nc nm ns f) else f
def DJ (f : Nat → Int32) (n nc nm ns : Nat) : Prop := DI f n nc nm ns ∧ f 2 = nI (cN (f 2)) ∧ cN (f 2) ≤ 60 ∧ f 0 = nI (cN (f 0)) ∧ cN (f 0) ≤ 2000
theorem DI_s {f f' : Nat → Int32} {n nc nm ns : Nat} (h : agS f f') (hD : DI f n nc nm ns) : DI f' n nc nm ns := by
  obtain ⟨a1, a2, a3, a4, a5, a6, a7, x, hx, ex⟩ := hD
  exact ⟨WT_c (fun i hi => h i (by omega)) a1, WP_c (fun i h1 h2 => h i (by omega)) a2, WF1_c (h _ (by omega)) (fun c j hc hj => h _ (by omega)) a3, (h _ (by omega)).trans a4, a5, (h _ (by omega)).trans a6, a7, x, hx, (h _ (by omega)).trans ex⟩
theorem DI_0 {f : Nat → Int32} {n nc nm ns : Nat} {v : Int32} (hD : DI f n nc nm ns) : DI (upd f 0 v) n nc nm ns := by
  obtain ⟨a1, a2, a3, a4, a5, a6, a7, x, hx, ex⟩ := hD
  exact ⟨WT_c (fun i hi => pk_un (by omega)) a1, WP_c (fun i h1 h2 => pk_un (by omega)) a2, WF1_c (pk_un (by omega)) (fun c j hc hj => pk_un (by omega)) a3, (pk_un (by omega)).trans a4, a5, (pk_un (by omega)).trans a6, a7, x, hx, (pk_un (by omega)).trans ex⟩
theorem r_days {x : Int32} {n nc nm ns : Nat} (hD : DJ f n nc nm ns) (hn : w.1 = N0) : Ev g (d + 18) 288 [.ref 1424, .int x] (rW w m f A B) (OpQ w m (if okN x 41 = true then daysF n nc nm ns (cN x) f else f) A (some (.int (if okN x 41 = true then daysF n nc nm ns (cN x) f 0 else 0))) (if okN x 41 = true then 0 else 1)) noX := by
  refine ev_X11_days ?_ (Nat.le_of_ble_eq_true rfl)
  refine x_lo (lo' := [some (.ref 1424), some (.int x), none]) rfl ?_
  refine x_al rfl rfl ?_
  refine x_c rfl ?_
  refine x_putM rfl hn rfl rfl rfl (mset_0 _ _) ?_
  refine x_al rfl rfl ?_
  refine x_il rfl rfl ?_
  refine x_c rfl ?_
  refine x_c rfl ?_
  refine x_call3 (n_inN (n := 41) 40 (by decide) (by decide)) rfl (Nat.le_of_ble_eq_true rfl) (Or.inl (by first | exact hn | assumption)) trivial (Nat.le_of_ble_eq_true rfl) (Nat.le_of_ble_eq_true rfl) (fun E w9 hq => hq.elim) ?_
  rintro v9 w9 ⟨rfl, rfl⟩
  cases hb : okN x 41 with
  | false =>
    refine x_ifne rfl (fun c => absurd rfl c) (fun c => ?_)
    refine x_c rfl ?_
    refine x_go rfl ?_
    refine x_c rfl ?_
    refine x_call3 (n_throwsIf (b := true) hn) rfl (Nat.le_of_ble_eq_true rfl) (Or.inl (by first | exact hn | assumption)) (rcv_at (by first | exact rw_md hn | exact rw_w hn | exact rw_A hn (by exact rfl) | exact rw_B2 hn | exact rw_B3 hn | assumption) (by decide) (by decide)) (Nat.le_of_ble_eq_true rfl) (Nat.le_of_ble_eq_true rfl) (fun E w9 hq => hq.elim) ?_
    rintro v9 w9 ⟨rfl, rfl⟩
    refine x_ifeq rfl (fun c => absurd c (show ¬ (1 : Int32) = 0 by decide)) (fun c => ?_)
    refine x_c rfl ?_
    refine x_reti rfl (Nat.le_of_ble_eq_true rfl) (Nat.le_of_ble_eq_true rfl) rfl ?_
    exact opq_t
  | true =>
    obtain ⟨p, hp, rfl, hcn⟩ := ok_of hb (by omega)
    refine x_ifne rfl (fun c => ?_) (fun c => absurd c (show ¬ (1 : Int32) = 0 by decide))
    refine x_c rfl ?_
    refine x_c rfl ?_
    refine x_call3 (n_throwsIf (b := false) hn) rfl (Nat.le_of_ble_eq_true rfl) (Or.inl (by first | exact hn | assumption)) (rcv_at (by first | exact rw_md hn | exact rw_w hn | exact rw_A hn (by exact rfl) | exact rw_B2 hn | exact rw_B3 hn | assumption) (by decide) (by decide)) (Nat.le_of_ble_eq_true rfl) (Nat.le_of_ble_eq_true rfl) (fun E w9 hq => hq.elim) ?_
    rintro v9 w9 ⟨rfl, rfl⟩
    rw [hcn, if_pos rfl, if_pos rfl, if_pos rfl]
    have loop : ∀ k, k ≤ p → ∀ m' f' A', DJ f' n nc nm ns → keepS (upd m 0 0) m' → keepB A A' → daysF n nc nm ns (p - k) f' = daysF n nc nm ns p f → EX g mbOf (Ev g (d + 17)) (infoOf 288) k_X11_days (OpQ w m (daysF n nc nm ns p f) A (some (.int (daysF n nc nm ns p f 0))) 0) noX w.1 (rW w m' f' A' B) 0 0 19 [some (.ref 1424), some (.int (nI p)), some (.int (nI k))] [] := by
      refine downN p fun k hk ih => ?_
      intro m' f' A' hJ hk1 hA hR
      obtain ⟨hI, j2, j60, j0, j2000⟩ := hJ
      have fin : f' = daysF n nc nm ns p f → EX g mbOf (Ev g (d + 17)) (infoOf 288) k_X11_days (OpQ w m (daysF n nc nm ns p f) A (some (.int (daysF n nc nm ns p f 0))) 0) noX w.1 (rW w m' f' A' B) 0 0 40 [some (.ref 1424), some (.int (nI p)), some (.int (nI k))] [] := by
        intro e
        refine x_al rfl rfl ?_
        refine x_call1 (n_today hn) rfl (Nat.le_of_ble_eq_true rfl) (Or.inl (by first | exact hn | assumption)) (rcv_at (by first | exact rw_md hn | exact rw_w hn | exact rw_A hn (by exact rfl) | exact rw_B2 hn | exact rw_B3 hn | assumption) (by decide) (by decide)) (Nat.le_of_ble_eq_true rfl) (Nat.le_of_ble_eq_true rfl) (fun E w9 hq => hq.elim) ?_
        rintro v9 w9 ⟨rfl, rfl⟩
        refine x_reti rfl (Nat.le_of_ble_eq_true rfl) (Nat.le_of_ble_eq_true rfl) rfl ?_
        rw [← e]
        exact opq_k hk1 hA
      refine x_il rfl rfl ?_
      refine x_il rfl rfl ?_
      refine x_icgeN rfl (by omega) (fun c0 => ?_) (fun c0 => ?_)
      · skip
        rw [show p - k = 0 by omega] at hR
        exact fin hR
      refine x_al rfl rfl ?_
      obtain ⟨z, hz⟩ : ∃ z, p - k = z + 1 := ⟨p - k - 1, by omega⟩
      rw [hz] at hR
      refine x_call1 (n_today hn) rfl (Nat.le_of_ble_eq_true rfl) (Or.inl (by first | exact hn | assumption)) (rcv_at (by first | exact rw_md hn | exact rw_w hn | exact rw_A hn (by exact rfl) | exact rw_B2 hn | exact rw_B3 hn | assumption) (by decide) (by decide)) (Nat.le_of_ble_eq_true rfl) (Nat.le_of_ble_eq_true rfl) (fun E w9 hq => hq.elim) ?_
      rintro v9 w9 ⟨rfl, rfl⟩
      refine x_c rfl ?_
      refine x_icge rfl (fun c1 => ?_) (fun c1 => ?_)
      · skip
        rw [show daysF n nc nm ns (z + 1) f' = f' from if_neg (Int32.not_lt.mpr c1)] at hR
        exact fin hR
      refine x_al rfl rfl ?_
      refine x_get rfl (rw_md hn) (by exact rfl) ?_
      refine x_c rfl ?_
      refine x_dup2 rfl rfl rfl ?_
      refine x_iaN (j := 0) rfl (by first | exact rw_md hn | exact rw_w hn | exact rw_A hn (by exact rfl) | exact rw_B2 hn | exact rw_B3 hn | assumption) (by omega) ?_
      refine x_c rfl ?_
      refine x_add rfl ?_
      first | refine x_iasW (j := 0) rfl hn (by omega) ?_ | refine x_iasA (j := 0) rfl hn (by exact rfl) (by omega) ?_
      refine x_al rfl rfl ?_
      have c1 := Int32.not_le.mp c1
      rw [show daysF n nc nm ns (z + 1) f' = daysF n nc nm ns z (dayF n nc nm ns f') from if_pos c1] at hR
      have hD1 := DI_0 (v := f' 0 + 1) hI
      have d2 : upd f' 0 (f' 0 + 1) 2 = f' 2 := pk_un (by decide)
      refine x_call1 (n_desks hD1 (by rw [d2]; exact j2) (by rw [d2]; exact j60) hn) rfl (Nat.le_of_ble_eq_true rfl) (Or.inl (by first | exact hn | assumption)) (rcv_at (by first | exact rw_md hn | exact rw_w hn | exact rw_A hn (by exact rfl) | exact rw_B2 hn | exact rw_B3 hn | assumption) (by decide) (by decide)) (Nat.le_of_ble_eq_true rfl) (Nat.le_of_ble_eq_true rfl) (fun E w9 hq => hq.elim) ?_
      rintro v9 w9 ⟨rfl, M2, A2, rfl, hk2, hA2, hD2, ag2⟩
      refine x_al rfl rfl ?_
      refine x_call1 (n_strikes hD2.1 hD2.2.2.1 hn) rfl (Nat.le_of_ble_eq_true rfl) (Or.inl (by first | exact hn | assumption)) (rcv_at (by first | exact rw_md hn | exact rw_w hn | exact rw_A hn (by exact rfl) | exact rw_B2 hn | exact rw_B3 hn | assumption) (by decide) (by decide)) (Nat.le_of_ble_eq_true rfl) (Nat.le_of_ble_eq_true rfl) (fun E w9 hq => hq.elim) ?_
      rintro v9 w9 ⟨rfl, A3, rfl, hA3⟩
      refine x_inc1 (lo' := [_, _, _]) rfl rfl rfl ?_
      refine x_go rfl ?_
      have hnc := hD2.2.2.1.2.1
      have ag3 : agS (desksF (upd f' 0 (f' 0 + 1)) n nc nm ns) (strikesF (desksF (upd f' 0 (f' 0 + 1)) n nc nm ns) n nc) := skF_ag _ hnc
      rw [show strikesF (desksF (upd f' 0 (f' 0 + 1)) n nc nm ns) n nc = dayF n nc nm ns f' from rfl] at ag3 ⊢
      have q2 : dayF n nc nm ns f' 2 = f' 2 := (ag3 2 (by omega)).trans ((ag2 2 (by unfold dkC; omega)).trans d2)
      have q0 : dayF n nc nm ns f' 0 = nI (cN (f' 0) + 1) := (ag3 0 (by omega)).trans ((ag2 0 (by unfold dkC; omega)).trans (by rw [pk_us, j0]; rw [show cN (nI (cN (f' 0))) = cN (f' 0) from nI_clamp (by omega)]; exact nI_add _ 1))
      have q0' : cN (dayF n nc nm ns f' 0) = cN (f' 0) + 1 := by rw [q0]; exact nI_clamp (by omega)
      have l2000 : cN (f' 0) < 2000 := by
        rw [j0] at c1
        exact (nI_ltI (b := 2000) (by omega) (by omega)).mp c1
      refine ih c0 _ _ _ ⟨DI_s ag3 hD2, by rw [q2]; exact j2, by rw [q2]; exact j60, by rw [q0, show cN (nI (cN (f' 0) + 1)) = cN (f' 0) + 1 from nI_clamp (by omega)], by rw [q0']; omega⟩ (keepS_t hk1 hk2) (keepB_t hA (keepB_t hA2 hA3)) ?_
      rw [show p - (k + 1) = z by omega]
      exact hR
    refine x_ifeq rfl (fun c => ?_) (fun c => absurd rfl c)
    refine x_c rfl ?_
    refine x_is (lo' := [_, _, _]) rfl (Nat.le_of_ble_eq_true rfl) rfl ?_
    exact loop 0 (Nat.zero_le _) _ _ _ hD keepS_r keepB_r rfl
end CALLS
