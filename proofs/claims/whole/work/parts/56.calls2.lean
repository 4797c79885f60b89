/-! more calls; mset_ -/
section CALLS
variable {g : aG} {d : Nat} {w : aW} {m f : Nat → Int32} {A : Nat → Nat → Int32} {B : Nat → Nat → Int64}
theorem opq_b {r : Option Value} {t : Int32} {m' : Nat → Int32} {A' : Nat → Nat → Int32} {B' : Nat → Nat → Int64} (hk : keepS (upd m 0 t) m') (hA : ∀ q, q < 1430 → A' q = A q) : OpQ w m f A r t r (rW w m' f A' B') := ⟨rfl, _, _, _, rfl, (hk 0 (by decide) (by decide)).trans pk_us, hk, hA⟩
theorem r_kind {x y : Int32} {nc : Nat} (hF1 : WF1 f nc) (hn : w.1 = N0) : Ev g (d + 11) 242 [.ref 1424, .int x, .int y] (rW w m f A B) (OpQ w m f A (some (.int (if okN x nc = true ∧ okN y 10 = true then clC f (cN x) (cN y) 0 else 0))) (if okN x nc = true ∧ okN y 10 = true then 0 else 1)) noX := by
  have hnc := hF1.2.1
  generalize hR : (if okN x nc = true ∧ okN y 10 = true then clC f (cN x) (cN y) 0 else 0) = R
  generalize hT : (if okN x nc = true ∧ okN y 10 = true then (0 : Int32) else 1) = T
  refine ev_X11_kind ?_ (Nat.le_of_ble_eq_true rfl)
  refine x_lo (lo' := [some (.ref 1424), some (.int x), some (.int y)]) rfl ?_
  refine x_al rfl rfl ?_
  refine x_c rfl ?_
  refine x_putM rfl hn rfl rfl rfl (mset_0 _ _) ?_
  refine x_al rfl rfl ?_
  refine x_al rfl rfl ?_
  refine x_il rfl rfl ?_
  refine x_call2 (n_noCard hF1.1 (by omega) hn) rfl (Nat.le_of_ble_eq_true rfl) (Or.inl (by first | exact hn | assumption)) (rcv_at (by first | exact rw_md hn | exact rw_w hn | exact rw_A hn (by exact rfl) | exact rw_B2 hn | exact rw_B3 hn | assumption) (by decide) (by decide)) (Nat.le_of_ble_eq_true rfl) (Nat.le_of_ble_eq_true rfl) (fun E w9 hq => hq.elim) ?_
  rintro v9 w9 ⟨rfl, rfl⟩
  have thrown : ¬ (okN x nc = true ∧ okN y 10 = true) → EX g mbOf (Ev g (d + 10)) (infoOf 242) k_X11_kind (OpQ w m f A (some (.int R)) T) noX w.1 (rW w (upd m 0 0) f A B) 0 0 14 [some (.ref 1424), some (.int x), some (.int y)] [.int (bI true), .ref 1424] := by
    intro h
    rw [← hR, ← hT, if_neg h, if_neg h]
    refine x_c rfl ?_
    refine x_call3 (n_throwsIf hn) rfl (Nat.le_of_ble_eq_true rfl) (Or.inl (by first | exact hn | assumption)) (rcv_at (by first | exact rw_md hn | exact rw_w hn | exact rw_A hn (by exact rfl) | exact rw_B2 hn | exact rw_B3 hn | assumption) (by decide) (by decide)) (Nat.le_of_ble_eq_true rfl) (Nat.le_of_ble_eq_true rfl) (fun E w9 hq => hq.elim) ?_
    rintro v9 w9 ⟨rfl, rfl⟩
    refine x_ifeq rfl (fun c => absurd c (show ¬ (1 : Int32) = 0 by decide)) (fun c => ?_)
    refine x_c rfl ?_
    refine x_go rfl ?_
    refine x_reti rfl (Nat.le_of_ble_eq_true rfl) (Nat.le_of_ble_eq_true rfl) rfl ?_
    exact opq_t
  cases hb : okN x nc with
  | false =>
    rw [hb] at thrown
    refine x_ifne rfl (fun c => ?_) (fun c => absurd c (show ¬ (1 : Int32) = 0 by decide))
    refine x_c rfl ?_
    refine x_go rfl ?_
    exact thrown (fun h => absurd h.1 (by decide))
  | true =>
    rw [hb] at thrown
    obtain ⟨p, hp, rfl, hcn⟩ := ok_of hb (by omega)
    refine x_ifne rfl (fun c => absurd rfl c) (fun c => ?_)
    refine x_il rfl rfl ?_
    refine x_call1 (n_noFinger hn) rfl (Nat.le_of_ble_eq_true rfl) (Or.inl (by first | exact hn | assumption)) trivial (Nat.le_of_ble_eq_true rfl) (Nat.le_of_ble_eq_true rfl) (fun E w9 hq => hq.elim) ?_
    rintro v9 w9 ⟨rfl, rfl⟩
    cases hb2 : okN y 10 with
    | false =>
      rw [hb2] at thrown
      refine x_ifeq rfl (fun c => absurd c (show ¬ (1 : Int32) = 0 by decide)) (fun c => ?_)
      refine x_c rfl ?_
      refine x_go rfl ?_
      exact thrown (fun h => absurd h.2 (by decide))
    | true =>
      rw [hb, hb2, if_pos ⟨rfl, rfl⟩] at hR hT
      obtain ⟨q, hq, rfl, hcn2⟩ := ok_of hb2 (by omega)
      refine x_ifeq rfl (fun c => ?_) (fun c => absurd rfl c)
      refine x_c rfl ?_
      refine x_c rfl ?_
      refine x_call3 (n_throwsIf (b := false) hn) rfl (Nat.le_of_ble_eq_true rfl) (Or.inl (by first | exact hn | assumption)) (rcv_at (by first | exact rw_md hn | exact rw_w hn | exact rw_A hn (by exact rfl) | exact rw_B2 hn | exact rw_B3 hn | assumption) (by decide) (by decide)) (Nat.le_of_ble_eq_true rfl) (Nat.le_of_ble_eq_true rfl) (fun E w9 hq => hq.elim) ?_
      rintro v9 w9 ⟨rfl, rfl⟩
      refine x_ifeq rfl (fun c => ?_) (fun c => absurd rfl c)
      refine x_al rfl rfl ?_
      refine x_il rfl rfl ?_
      refine x_il rfl rfl ?_
      refine x_c rfl ?_
      refine x_call4 (n_classOf hF1 hp hq hn) rfl (Nat.le_of_ble_eq_true rfl) (Or.inl (by first | exact hn | assumption)) (rcv_at (by first | exact rw_md hn | exact rw_w hn | exact rw_A hn (by exact rfl) | exact rw_B2 hn | exact rw_B3 hn | assumption) (by decide) (by decide)) (Nat.le_of_ble_eq_true rfl) (Nat.le_of_ble_eq_true rfl) (fun E w9 hq => hq.elim) ?_
      rintro v9 w9 ⟨rfl, rfl⟩
      refine x_reti rfl (Nat.le_of_ble_eq_true rfl) (Nat.le_of_ble_eq_true rfl) rfl ?_
      rw [← hR, ← hT, hcn, hcn2]
      exact opq_s
theorem r_number {x : Int32} {lo : Bool} {nc : Nat} (hF1 : WF1 f nc) (hn : w.1 = N0) : Ev g (d + 12) 244 [.ref 1424, .int x, .int (bI lo)] (rW w m f A B) (OpQ w m f A (some (.int (if okN x nc = true then nuC f (cN x) 0 lo 5 else 0))) (if okN x nc = true then 0 else 1)) noX := by
  have hnc := hF1.2.1
  refine ev_X11_number_ ?_ (Nat.le_of_ble_eq_true rfl)
  refine x_lo (lo' := [some (.ref 1424), some (.int x), some (.int (bI lo))]) rfl ?_
  refine x_al rfl rfl ?_
  refine x_c rfl ?_
  refine x_putM rfl hn rfl rfl rfl (mset_0 _ _) ?_
  refine x_al rfl rfl ?_
  refine x_al rfl rfl ?_
  refine x_il rfl rfl ?_
  refine x_call2 (n_noCard hF1.1 (by omega) hn) rfl (Nat.le_of_ble_eq_true rfl) (Or.inl (by first | exact hn | assumption)) (rcv_at (by first | exact rw_md hn | exact rw_w hn | exact rw_A hn (by exact rfl) | exact rw_B2 hn | exact rw_B3 hn | assumption) (by decide) (by decide)) (Nat.le_of_ble_eq_true rfl) (Nat.le_of_ble_eq_true rfl) (fun E w9 hq => hq.elim) ?_
  rintro v9 w9 ⟨rfl, rfl⟩
  refine x_c rfl ?_
  refine x_call3 (n_throwsIf hn) rfl (Nat.le_of_ble_eq_true rfl) (Or.inl (by first | exact hn | assumption)) (rcv_at (by first | exact rw_md hn | exact rw_w hn | exact rw_A hn (by exact rfl) | exact rw_B2 hn | exact rw_B3 hn | assumption) (by decide) (by decide)) (Nat.le_of_ble_eq_true rfl) (Nat.le_of_ble_eq_true rfl) (fun E w9 hq => hq.elim) ?_
  rintro v9 w9 ⟨rfl, rfl⟩
  cases hb : okN x nc with
  | false =>
    refine x_ifeq rfl (fun c => absurd c (show ¬ (1 : Int32) = 0 by decide)) (fun c => ?_)
    refine x_c rfl ?_
    refine x_go rfl ?_
    refine x_reti rfl (Nat.le_of_ble_eq_true rfl) (Nat.le_of_ble_eq_true rfl) rfl ?_
    exact opq_t
  | true =>
    obtain ⟨p, hp, rfl, hcn⟩ := ok_of hb (by omega)
    refine x_ifeq rfl (fun c => ?_) (fun c => absurd rfl c)
    refine x_al rfl rfl ?_
    refine x_il rfl rfl ?_
    refine x_c rfl ?_
    refine x_il rfl rfl ?_
    refine x_call4 (n_numberOf hF1 hp hn) rfl (Nat.le_of_ble_eq_true rfl) (Or.inl (by first | exact hn | assumption)) (rcv_at (by first | exact rw_md hn | exact rw_w hn | exact rw_A hn (by exact rfl) | exact rw_B2 hn | exact rw_B3 hn | assumption) (by decide) (by decide)) (Nat.le_of_ble_eq_true rfl) (Nat.le_of_ble_eq_true rfl) (fun E w9 hq => hq.elim) ?_
    rintro v9 w9 ⟨rfl, rfl⟩
    refine x_reti rfl (Nat.le_of_ble_eq_true rfl) (Nat.le_of_ble_eq_true rfl) rfl ?_
    rw [hcn]
    exact opq_s
theorem r_drawers {x : Int32} {nc : Nat} (hF1 : WF1 f nc) (h4 : ∀ c, c < nc → cn (dbt f c) 10 ≤ 4) (hn : w.1 = N0) : Ev g (d + 13) 246 [.ref 1424, .int x] (rW w m f A B) (OpQ w m f A (some (.int (if okN x nc = true then nI (readsF f (cN x) (B 1432)).1 else 0))) (if okN x nc = true then 0 else 1)) noX := by
  have hnc := hF1.2.1
  refine ev_X11_drawers ?_ (Nat.le_of_ble_eq_true rfl)
  refine x_lo (lo' := [some (.ref 1424), some (.int x)]) rfl ?_
  refine x_al rfl rfl ?_
  refine x_c rfl ?_
  refine x_putM rfl hn rfl rfl rfl (mset_0 _ _) ?_
  refine x_al rfl rfl ?_
  refine x_al rfl rfl ?_
  refine x_il rfl rfl ?_
  refine x_call2 (n_noCard hF1.1 (by omega) hn) rfl (Nat.le_of_ble_eq_true rfl) (Or.inl (by first | exact hn | assumption)) (rcv_at (by first | exact rw_md hn | exact rw_w hn | exact rw_A hn (by exact rfl) | exact rw_B2 hn | exact rw_B3 hn | assumption) (by decide) (by decide)) (Nat.le_of_ble_eq_true rfl) (Nat.le_of_ble_eq_true rfl) (fun E w9 hq => hq.elim) ?_
  rintro v9 w9 ⟨rfl, rfl⟩
  refine x_c rfl ?_
  refine x_call3 (n_throwsIf hn) rfl (Nat.le_of_ble_eq_true rfl) (Or.inl (by first | exact hn | assumption)) (rcv_at (by first | exact rw_md hn | exact rw_w hn | exact rw_A hn (by exact rfl) | exact rw_B2 hn | exact rw_B3 hn | assumption) (by decide) (by decide)) (Nat.le_of_ble_eq_true rfl) (Nat.le_of_ble_eq_true rfl) (fun E w9 hq => hq.elim) ?_
  rintro v9 w9 ⟨rfl, rfl⟩
  cases hb : okN x nc with
  | false =>
    refine x_ifeq rfl (fun c => absurd c (show ¬ (1 : Int32) = 0 by decide)) (fun c => ?_)
    refine x_c rfl ?_
    refine x_go rfl ?_
    refine x_reti rfl (Nat.le_of_ble_eq_true rfl) (Nat.le_of_ble_eq_true rfl) rfl ?_
    exact opq_t
  | true =>
    obtain ⟨p, hp, rfl, hcn⟩ := ok_of hb (by omega)
    refine x_ifeq rfl (fun c => ?_) (fun c => absurd rfl c)
    refine x_al rfl rfl ?_
    refine x_il rfl rfl ?_
    refine x_al rfl rfl ?_
    refine x_get rfl (rw_md hn) (by exact rfl) ?_
    refine x_call3 (n_reads (Or.inl rfl) hF1 hp (h4 _ hp) hn) rfl (Nat.le_of_ble_eq_true rfl) (Or.inl (by first | exact hn | assumption)) (rcv_at (by first | exact rw_md hn | exact rw_w hn | exact rw_A hn (by exact rfl) | exact rw_B2 hn | exact rw_B3 hn | assumption) (by decide) (by decide)) (Nat.le_of_ble_eq_true rfl) (Nat.le_of_ble_eq_true rfl) (fun E w9 hq => hq.elim) ?_
    rintro v9 w9 ⟨rfl, rfl⟩
    refine x_reti rfl (Nat.le_of_ble_eq_true rfl) (Nat.le_of_ble_eq_true rfl) rfl ?_
    rw [hcn]
    exact opq_k keepS_r keepB_r
theorem r_kept {x day : Int32} {n nc : Nat} (hT : WT f n) (hc : f 6606 = nI nc) (hnc : nc ≤ 16) (hn : w.1 = N0) : Ev g (d + 5) 269 [.ref 1424, .int x, .int day] (rW w m f A B) (OpQ w m f A (some (.int (if okN x nc = true then keptF f n (cN x) day else 0))) (if okN x nc = true then 0 else 1)) noX := by
  refine ev_X11_kept ?_ (Nat.le_of_ble_eq_true rfl)
  refine x_lo (lo' := [some (.ref 1424), some (.int x), some (.int day)]) rfl ?_
  refine x_al rfl rfl ?_
  refine x_c rfl ?_
  refine x_putM rfl hn rfl rfl rfl (mset_0 _ _) ?_
  refine x_al rfl rfl ?_
  refine x_al rfl rfl ?_
  refine x_il rfl rfl ?_
  refine x_call2 (n_noCard hc (by omega) hn) rfl (Nat.le_of_ble_eq_true rfl) (Or.inl (by first | exact hn | assumption)) (rcv_at (by first | exact rw_md hn | exact rw_w hn | exact rw_A hn (by exact rfl) | exact rw_B2 hn | exact rw_B3 hn | assumption) (by decide) (by decide)) (Nat.le_of_ble_eq_true rfl) (Nat.le_of_ble_eq_true rfl) (fun E w9 hq => hq.elim) ?_
  rintro v9 w9 ⟨rfl, rfl⟩
  refine x_c rfl ?_
  refine x_call3 (n_throwsIf hn) rfl (Nat.le_of_ble_eq_true rfl) (Or.inl (by first | exact hn | assumption)) (rcv_at (by first | exact rw_md hn | exact rw_w hn | exact rw_A hn (by exact rfl) | exact rw_B2 hn | exact rw_B3 hn | assumption) (by decide) (by decide)) (Nat.le_of_ble_eq_true rfl) (Nat.le_of_ble_eq_true rfl) (fun E w9 hq => hq.elim) ?_
  rintro v9 w9 ⟨rfl, rfl⟩
  cases hb : okN x nc with
  | false =>
    refine x_ifeq rfl (fun c => absurd c (show ¬ (1 : Int32) = 0 by decide)) (fun c => ?_)
    refine x_c rfl ?_
    refine x_go rfl ?_
    refine x_reti rfl (Nat.le_of_ble_eq_true rfl) (Nat.le_of_ble_eq_true rfl) rfl ?_
    exact opq_t
  | true =>
    obtain ⟨p, hp, rfl, hcn⟩ := ok_of hb (by omega)
    refine x_ifeq rfl (fun c => ?_) (fun c => absurd rfl c)
    refine x_al rfl rfl ?_
    refine x_il rfl rfl ?_
    refine x_il rfl rfl ?_
    refine x_call3 (n_keptOf hT (by omega) hn) rfl (Nat.le_of_ble_eq_true rfl) (Or.inl (by first | exact hn | assumption)) (rcv_at (by first | exact rw_md hn | exact rw_w hn | exact rw_A hn (by exact rfl) | exact rw_B2 hn | exact rw_B3 hn | assumption) (by decide) (by decide)) (Nat.le_of_ble_eq_true rfl) (Nat.le_of_ble_eq_true rfl) (fun E w9 hq => hq.elim) ?_
    rintro v9 w9 ⟨M', A2, rfl, hk2, hA2, rfl, hm2, -⟩
    refine x_reti rfl (Nat.le_of_ble_eq_true rfl) (Nat.le_of_ble_eq_true rfl) rfl ?_
    rw [hcn]
    exact opq_k hk2 hA2
theorem r_verdict {x y day : Int32} {n nm np : Nat} (hT : WT f n) (hW : WP f) (hc : f 5825 = nI nm) (hnm : nm ≤ 20) (hp4 : f 4 = nI np) (hnp : np ≤ 60) (hn : w.1 = N0) : Ev g (d + 15) 265 [.ref 1424, .int x, .int y, .int day] (rW w m f A B) (OpQ w m f A (some (.int (if okN x nm = true ∧ okN y np = true then vM f n (cN x) (cN y) day else 0))) (if okN x nm = true ∧ okN y np = true then 0 else 1)) noX := by
  generalize hR : (if okN x nm = true ∧ okN y np = true then vM f n (cN x) (cN y) day else 0) = R
  generalize hT1 : (if okN x nm = true ∧ okN y np = true then (0 : Int32) else 1) = T
  refine ev_X11_verdict ?_ (Nat.le_of_ble_eq_true rfl)
  refine x_lo (lo' := [some (.ref 1424), some (.int x), some (.int y), some (.int day)]) rfl ?_
  refine x_al rfl rfl ?_
  refine x_c rfl ?_
  refine x_putM rfl hn rfl rfl rfl (mset_0 _ _) ?_
  refine x_al rfl rfl ?_
  refine x_al rfl rfl ?_
  refine x_il rfl rfl ?_
  refine x_call2 (n_noMark hc (by omega) hn) rfl (Nat.le_of_ble_eq_true rfl) (Or.inl (by first | exact hn | assumption)) (rcv_at (by first | exact rw_md hn | exact rw_w hn | exact rw_A hn (by exact rfl) | exact rw_B2 hn | exact rw_B3 hn | assumption) (by decide) (by decide)) (Nat.le_of_ble_eq_true rfl) (Nat.le_of_ble_eq_true rfl) (fun E w9 hq => hq.elim) ?_
  rintro v9 w9 ⟨rfl, rfl⟩
  have thrown : ¬ (okN x nm = true ∧ okN y np = true) → EX g mbOf (Ev g (d + 14)) (infoOf 265) k_X11_verdict (OpQ w m f A (some (.int R)) T) noX w.1 (rW w (upd m 0 0) f A B) 0 0 15 [some (.ref 1424), some (.int x), some (.int y), some (.int day)] [.int (bI true), .ref 1424] := by
    intro h
    rw [← hR, ← hT1, if_neg h, if_neg h]
    refine x_c rfl ?_
    refine x_call3 (n_throwsIf hn) rfl (Nat.le_of_ble_eq_true rfl) (Or.inl (by first | exact hn | assumption)) (rcv_at (by first | exact rw_md hn | exact rw_w hn | exact rw_A hn (by exact rfl) | exact rw_B2 hn | exact rw_B3 hn | assumption) (by decide) (by decide)) (Nat.le_of_ble_eq_true rfl) (Nat.le_of_ble_eq_true rfl) (fun E w9 hq => hq.elim) ?_
    rintro v9 w9 ⟨rfl, rfl⟩
    refine x_ifeq rfl (fun c => absurd c (show ¬ (1 : Int32) = 0 by decide)) (fun c => ?_)
    refine x_c rfl ?_
    refine x_reti rfl (Nat.le_of_ble_eq_true rfl) (Nat.le_of_ble_eq_true rfl) rfl ?_
    exact opq_t
  cases hb : okN x nm with
  | false =>
    rw [hb] at thrown
    refine x_ifne rfl (fun c => ?_) (fun c => absurd c (show ¬ (1 : Int32) = 0 by decide))
    refine x_c rfl ?_
    refine x_go rfl ?_
    exact thrown (fun h => absurd h.1 (by decide))
  | true =>
    rw [hb] at thrown
    obtain ⟨p, hp, rfl, hcn⟩ := ok_of hb (by omega)
    refine x_ifne rfl (fun c => absurd rfl c) (fun c => ?_)
    refine x_al rfl rfl ?_
    refine x_il rfl rfl ?_
    refine x_call2 (n_noPrint hp4 (by omega) hn) rfl (Nat.le_of_ble_eq_true rfl) (Or.inl (by first | exact hn | assumption)) (rcv_at (by first | exact rw_md hn | exact rw_w hn | exact rw_A hn (by exact rfl) | exact rw_B2 hn | exact rw_B3 hn | assumption) (by decide) (by decide)) (Nat.le_of_ble_eq_true rfl) (Nat.le_of_ble_eq_true rfl) (fun E w9 hq => hq.elim) ?_
    rintro v9 w9 ⟨rfl, rfl⟩
    cases hb2 : okN y np with
    | false =>
      rw [hb2] at thrown
      refine x_ifeq rfl (fun c => absurd c (show ¬ (1 : Int32) = 0 by decide)) (fun c => ?_)
      refine x_c rfl ?_
      refine x_go rfl ?_
      exact thrown (fun h => absurd h.2 (by decide))
    | true =>
      rw [hb, hb2, if_pos ⟨rfl, rfl⟩] at hR hT1
      obtain ⟨q, hq, rfl, hcn2⟩ := ok_of hb2 (by omega)
      refine x_ifeq rfl (fun c => ?_) (fun c => absurd rfl c)
      refine x_c rfl ?_
      refine x_c rfl ?_
      refine x_call3 (n_throwsIf (b := false) hn) rfl (Nat.le_of_ble_eq_true rfl) (Or.inl (by first | exact hn | assumption)) (rcv_at (by first | exact rw_md hn | exact rw_w hn | exact rw_A hn (by exact rfl) | exact rw_B2 hn | exact rw_B3 hn | assumption) (by decide) (by decide)) (Nat.le_of_ble_eq_true rfl) (Nat.le_of_ble_eq_true rfl) (fun E w9 hq => hq.elim) ?_
      rintro v9 w9 ⟨rfl, rfl⟩
      refine x_ifeq rfl (fun c => ?_) (fun c => absurd rfl c)
      refine x_al rfl rfl ?_
      refine x_il rfl rfl ?_
      refine x_il rfl rfl ?_
      refine x_il rfl rfl ?_
      refine x_call4 (n_looksM hW (by omega) (by omega) hn) rfl (Nat.le_of_ble_eq_true rfl) (Or.inl (by first | exact hn | assumption)) (rcv_at (by first | exact rw_md hn | exact rw_w hn | exact rw_A hn (by exact rfl) | exact rw_B2 hn | exact rw_B3 hn | assumption) (by decide) (by decide)) (Nat.le_of_ble_eq_true rfl) (Nat.le_of_ble_eq_true rfl) (fun E w9 hq => hq.elim) ?_
      rintro v9 w9 ⟨M', A2, rfl, hk', hA', rfl, hBM, hFc⟩
      refine x_al rfl rfl ?_
      refine x_il rfl rfl ?_
      refine x_call2 (n_judges hT hFc hn) rfl (Nat.le_of_ble_eq_true rfl) (Or.inl (by first | exact hn | assumption)) (rcv_at (by first | exact rw_md hn | exact rw_w hn | exact rw_A hn (by exact rfl) | exact rw_B2 hn | exact rw_B3 hn | assumption) (by decide) (by decide)) (Nat.le_of_ble_eq_true rfl) (Nat.le_of_ble_eq_true rfl) (fun E w9 hq => hq.elim) ?_
      rintro v9 w9 ⟨rfl, mt, rfl⟩
      refine x_reti rfl (Nat.le_of_ble_eq_true rfl) (Nat.le_of_ble_eq_true rfl) rfl ?_
      rw [← hR, ← hT1, hcn, hcn2]
      exact opq_k hk' (keepB_t hA' (keepB_u (by decide)))
/-- the rule by which a verdict comes -/
def whyF (f : Nat → Int32) (n k p : Nat) (day : Int32) : Int32 := if 0 ≤ firstF f (bestT f day n) 0 (tgM f k) (fcM f k p day) then firstF f (bestT f day n) 0 (tgM f k) (fcM f k p day) else firstF f (bestT f day n) 1 (tgM f k) (fcM f k p day)
theorem r_why {x y day : Int32} {n nm np : Nat} (hT : WT f n) (hW : WP f) (hc : f 5825 = nI nm) (hnm : nm ≤ 20) (hp4 : f 4 = nI np) (hnp : np ≤ 60) (hn : w.1 = N0) : Ev g (d + 15) 266 [.ref 1424, .int x, .int y, .int day] (rW w m f A B) (OpQ w m f A (some (.int (if okN x nm = true ∧ okN y np = true then whyF f n (cN x) (cN y) day else 0))) (if okN x nm = true ∧ okN y np = true then 0 else 1)) noX := by
  generalize hR : (if okN x nm = true ∧ okN y np = true then whyF f n (cN x) (cN y) day else 0) = R
  generalize hT1 : (if okN x nm = true ∧ okN y np = true then (0 : Int32) else 1) = T
  refine ev_X11_why ?_ (Nat.le_of_ble_eq_true rfl)
  refine x_lo (lo' := [some (.ref 1424), some (.int x), some (.int y), some (.int day), none]) rfl ?_
  refine x_al rfl rfl ?_
  refine x_c rfl ?_
  refine x_putM rfl hn rfl rfl rfl (mset_0 _ _) ?_
  refine x_al rfl rfl ?_
  refine x_al rfl rfl ?_
  refine x_il rfl rfl ?_
  refine x_call2 (n_noMark hc (by omega) hn) rfl (Nat.le_of_ble_eq_true rfl) (Or.inl (by first | exact hn | assumption)) (rcv_at (by first | exact rw_md hn | exact rw_w hn | exact rw_A hn (by exact rfl) | exact rw_B2 hn | exact rw_B3 hn | assumption) (by decide) (by decide)) (Nat.le_of_ble_eq_true rfl) (Nat.le_of_ble_eq_true rfl) (fun E w9 hq => hq.elim) ?_
  rintro v9 w9 ⟨rfl, rfl⟩
  have thrown : ¬ (okN x nm = true ∧ okN y np = true) → EX g mbOf (Ev g (d + 14)) (infoOf 266) k_X11_why (OpQ w m f A (some (.int R)) T) noX w.1 (rW w (upd m 0 0) f A B) 0 0 15 [some (.ref 1424), some (.int x), some (.int y), some (.int day), none] [.int (bI true), .ref 1424] := by
    intro h
    rw [← hR, ← hT1, if_neg h, if_neg h]
    refine x_c rfl ?_
    refine x_call3 (n_throwsIf hn) rfl (Nat.le_of_ble_eq_true rfl) (Or.inl (by first | exact hn | assumption)) (rcv_at (by first | exact rw_md hn | exact rw_w hn | exact rw_A hn (by exact rfl) | exact rw_B2 hn | exact rw_B3 hn | assumption) (by decide) (by decide)) (Nat.le_of_ble_eq_true rfl) (Nat.le_of_ble_eq_true rfl) (fun E w9 hq => hq.elim) ?_
    rintro v9 w9 ⟨rfl, rfl⟩
    refine x_ifeq rfl (fun c => absurd c (show ¬ (1 : Int32) = 0 by decide)) (fun c => ?_)
    refine x_c rfl ?_
    refine x_reti rfl (Nat.le_of_ble_eq_true rfl) (Nat.le_of_ble_eq_true rfl) rfl ?_
    exact opq_t
  cases hb : okN x nm with
  | false =>
    rw [hb] at thrown
    refine x_ifne rfl (fun c => ?_) (fun c => absurd c (show ¬ (1 : Int32) = 0 by decide))
    refine x_c rfl ?_
    refine x_go rfl ?_
    exact thrown (fun h => absurd h.1 (by decide))
  | true =>
    rw [hb] at thrown
    obtain ⟨p, hp, rfl, hcn⟩ := ok_of hb (by omega)
    refine x_ifne rfl (fun c => absurd rfl c) (fun c => ?_)
    refine x_al rfl rfl ?_
    refine x_il rfl rfl ?_
    refine x_call2 (n_noPrint hp4 (by omega) hn) rfl (Nat.le_of_ble_eq_true rfl) (Or.inl (by first | exact hn | assumption)) (rcv_at (by first | exact rw_md hn | exact rw_w hn | exact rw_A hn (by exact rfl) | exact rw_B2 hn | exact rw_B3 hn | assumption) (by decide) (by decide)) (Nat.le_of_ble_eq_true rfl) (Nat.le_of_ble_eq_true rfl) (fun E w9 hq => hq.elim) ?_
    rintro v9 w9 ⟨rfl, rfl⟩
    cases hb2 : okN y np with
    | false =>
      rw [hb2] at thrown
      refine x_ifeq rfl (fun c => absurd c (show ¬ (1 : Int32) = 0 by decide)) (fun c => ?_)
      refine x_c rfl ?_
      refine x_go rfl ?_
      exact thrown (fun h => absurd h.2 (by decide))
    | true =>
      rw [hb, hb2, if_pos ⟨rfl, rfl⟩] at hR hT1
      obtain ⟨q, hq, rfl, hcn2⟩ := ok_of hb2 (by omega)
      rw [hcn, hcn2] at hR
      unfold whyF at hR
      refine x_ifeq rfl (fun c => ?_) (fun c => absurd rfl c)
      refine x_c rfl ?_
      refine x_c rfl ?_
      refine x_call3 (n_throwsIf (b := false) hn) rfl (Nat.le_of_ble_eq_true rfl) (Or.inl (by first | exact hn | assumption)) (rcv_at (by first | exact rw_md hn | exact rw_w hn | exact rw_A hn (by exact rfl) | exact rw_B2 hn | exact rw_B3 hn | assumption) (by decide) (by decide)) (Nat.le_of_ble_eq_true rfl) (Nat.le_of_ble_eq_true rfl) (fun E w9 hq => hq.elim) ?_
      rintro v9 w9 ⟨rfl, rfl⟩
      refine x_ifeq rfl (fun c => ?_) (fun c => absurd rfl c)
      refine x_al rfl rfl ?_
      refine x_il rfl rfl ?_
      refine x_il rfl rfl ?_
      refine x_il rfl rfl ?_
      refine x_call4 (n_looksM hW (by omega) (by omega) hn) rfl (Nat.le_of_ble_eq_true rfl) (Or.inl (by first | exact hn | assumption)) (rcv_at (by first | exact rw_md hn | exact rw_w hn | exact rw_A hn (by exact rfl) | exact rw_B2 hn | exact rw_B3 hn | assumption) (by decide) (by decide)) (Nat.le_of_ble_eq_true rfl) (Nat.le_of_ble_eq_true rfl) (fun E w9 hq => hq.elim) ?_
      rintro v9 w9 ⟨M', A2, rfl, hk', hA', rfl, hBM, hFc⟩
      refine x_al rfl rfl ?_
      refine x_al rfl rfl ?_
      refine x_il rfl rfl ?_
      refine x_call2 (n_textOf hT.1 hT.2.1 hn) rfl (Nat.le_of_ble_eq_true rfl) (Or.inl (by first | exact hn | assumption)) (rcv_at (by first | exact rw_md hn | exact rw_w hn | exact rw_A hn (by exact rfl) | exact rw_B2 hn | exact rw_B3 hn | assumption) (by decide) (by decide)) (Nat.le_of_ble_eq_true rfl) (Nat.le_of_ble_eq_true rfl) (fun E w9 hq => hq.elim) ?_
      rintro v9 w9 ⟨rfl, rfl⟩
      refine x_c rfl ?_
      refine x_call3 (n_firstOf (hT.best day) hFc hn) rfl (Nat.le_of_ble_eq_true rfl) (Or.inl (by first | exact hn | assumption)) (rcv_at (by first | exact rw_md hn | exact rw_w hn | exact rw_A hn (by exact rfl) | exact rw_B2 hn | exact rw_B3 hn | assumption) (by decide) (by decide)) (Nat.le_of_ble_eq_true rfl) (Nat.le_of_ble_eq_true rfl) (fun E w9 hq => hq.elim) ?_
      rintro v9 w9 ⟨rfl, mt, rfl⟩
      refine x_is (lo' := [_, _, _, _, _]) rfl (Nat.le_of_ble_eq_true rfl) rfl ?_
      refine x_il rfl rfl ?_
      refine x_iflt rfl (fun c1 => ?_) (fun c1 => ?_)
      rotate_left
      · refine x_il rfl rfl ?_
        refine x_go rfl ?_
        refine x_reti rfl (Nat.le_of_ble_eq_true rfl) (Nat.le_of_ble_eq_true rfl) rfl ?_
        rw [← hR, ← hT1, if_pos (Int32.not_lt.mp c1)]
        exact opq_k hk' (keepB_t hA' (keepB_u (by decide)))
      refine x_al rfl rfl ?_
      refine x_al rfl rfl ?_
      refine x_il rfl rfl ?_
      rw [if_neg (Int32.not_le.mpr c1)] at hR
      refine x_call2 (n_textOf hT.1 hT.2.1 hn) rfl (Nat.le_of_ble_eq_true rfl) (Or.inl (by first | exact hn | assumption)) (rcv_at (by first | exact rw_md hn | exact rw_w hn | exact rw_A hn (by exact rfl) | exact rw_B2 hn | exact rw_B3 hn | assumption) (by decide) (by decide)) (Nat.le_of_ble_eq_true rfl) (Nat.le_of_ble_eq_true rfl) (fun E w9 hq => hq.elim) ?_
      rintro v9 w9 ⟨rfl, rfl⟩
      refine x_c rfl ?_
      refine x_call3 (n_firstOf (hT.best day) hFc.mt hn) rfl (Nat.le_of_ble_eq_true rfl) (Or.inl (by first | exact hn | assumption)) (rcv_at (by first | exact rw_md hn | exact rw_w hn | exact rw_A hn (by exact rfl) | exact rw_B2 hn | exact rw_B3 hn | assumption) (by decide) (by decide)) (Nat.le_of_ble_eq_true rfl) (Nat.le_of_ble_eq_true rfl) (fun E w9 hq => hq.elim) ?_
      rintro v9 w9 ⟨rfl, mt2, rfl⟩
      refine x_reti rfl (Nat.le_of_ble_eq_true rfl) (Nat.le_of_ble_eq_true rfl) rfl ?_
      rw [udA_udA, ← hR, ← hT1]
      exact opq_k hk' (keepB_t hA' (keepB_u (by decide)))
theorem r_alike {x y day : Int32} {n nc : Nat} (hT : WT f n) (hW : WP f) (hF1 : WF1 f nc) (hn : w.1 = N0) : Ev g (d + 14) 277 [.ref 1424, .int x, .int y, .int day] (rW w m f A B) (OpQ w m f A (some (.int (if okN x nc = true ∧ okN y nc = true then nI (alkN f n (min (cN x) (cN y)) (max (cN x) (cN y)) day 10) else 0))) (if okN x nc = true ∧ okN y nc = true then 0 else 1)) noX := by
  have hnc := hF1.2.1
  generalize hR : (if okN x nc = true ∧ okN y nc = true then nI (alkN f n (min (cN x) (cN y)) (max (cN x) (cN y)) day 10) else 0) = R
  generalize hT1 : (if okN x nc = true ∧ okN y nc = true then (0 : Int32) else 1) = T
  refine ev_X11_alike ?_ (Nat.le_of_ble_eq_true rfl)
  refine x_lo (lo' := [some (.ref 1424), some (.int x), some (.int y), some (.int day)]) rfl ?_
  refine x_al rfl rfl ?_
  refine x_c rfl ?_
  refine x_putM rfl hn rfl rfl rfl (mset_0 _ _) ?_
  refine x_al rfl rfl ?_
  refine x_al rfl rfl ?_
  refine x_il rfl rfl ?_
  refine x_call2 (n_noCard hF1.1 (by omega) hn) rfl (Nat.le_of_ble_eq_true rfl) (Or.inl (by first | exact hn | assumption)) (rcv_at (by first | exact rw_md hn | exact rw_w hn | exact rw_A hn (by exact rfl) | exact rw_B2 hn | exact rw_B3 hn | assumption) (by decide) (by decide)) (Nat.le_of_ble_eq_true rfl) (Nat.le_of_ble_eq_true rfl) (fun E w9 hq => hq.elim) ?_
  rintro v9 w9 ⟨rfl, rfl⟩
  have thrown : ¬ (okN x nc = true ∧ okN y nc = true) → EX g mbOf (Ev g (d + 13)) (infoOf 277) k_X11_alike (OpQ w m f A (some (.int R)) T) noX w.1 (rW w (upd m 0 0) f A B) 0 0 15 [some (.ref 1424), some (.int x), some (.int y), some (.int day)] [.int (bI true), .ref 1424] := by
    intro h
    rw [← hR, ← hT1, if_neg h, if_neg h]
    refine x_c rfl ?_
    refine x_call3 (n_throwsIf hn) rfl (Nat.le_of_ble_eq_true rfl) (Or.inl (by first | exact hn | assumption)) (rcv_at (by first | exact rw_md hn | exact rw_w hn | exact rw_A hn (by exact rfl) | exact rw_B2 hn | exact rw_B3 hn | assumption) (by decide) (by decide)) (Nat.le_of_ble_eq_true rfl) (Nat.le_of_ble_eq_true rfl) (fun E w9 hq => hq.elim) ?_
    rintro v9 w9 ⟨rfl, rfl⟩
    refine x_ifeq rfl (fun c => absurd c (show ¬ (1 : Int32) = 0 by decide)) (fun c => ?_)
    refine x_c rfl ?_
    refine x_go rfl ?_
    refine x_reti rfl (Nat.le_of_ble_eq_true rfl) (Nat.le_of_ble_eq_true rfl) rfl ?_
    exact opq_t
  cases hb : okN x nc with
  | false =>
    rw [hb] at thrown
    refine x_ifne rfl (fun c => ?_) (fun c => absurd c (show ¬ (1 : Int32) = 0 by decide))
    refine x_c rfl ?_
    refine x_go rfl ?_
    exact thrown (fun h => absurd h.1 (by decide))
  | true =>
    rw [hb] at thrown
    obtain ⟨p, hp, rfl, hcn⟩ := ok_of hb (by omega)
    refine x_ifne rfl (fun c => absurd rfl c) (fun c => ?_)
    refine x_al rfl rfl ?_
    refine x_il rfl rfl ?_
    refine x_call2 (n_noCard hF1.1 (by omega) hn) rfl (Nat.le_of_ble_eq_true rfl) (Or.inl (by first | exact hn | assumption)) (rcv_at (by first | exact rw_md hn | exact rw_w hn | exact rw_A hn (by exact rfl) | exact rw_B2 hn | exact rw_B3 hn | assumption) (by decide) (by decide)) (Nat.le_of_ble_eq_true rfl) (Nat.le_of_ble_eq_true rfl) (fun E w9 hq => hq.elim) ?_
    rintro v9 w9 ⟨rfl, rfl⟩
    cases hb2 : okN y nc with
    | false =>
      rw [hb2] at thrown
      refine x_ifeq rfl (fun c => absurd c (show ¬ (1 : Int32) = 0 by decide)) (fun c => ?_)
      refine x_c rfl ?_
      refine x_go rfl ?_
      exact thrown (fun h => absurd h.2 (by decide))
    | true =>
      rw [hb, hb2, if_pos ⟨rfl, rfl⟩] at hR hT1
      obtain ⟨q, hq, rfl, hcn2⟩ := ok_of hb2 (by omega)
      refine x_ifeq rfl (fun c => ?_) (fun c => absurd rfl c)
      refine x_c rfl ?_
      refine x_c rfl ?_
      refine x_call3 (n_throwsIf (b := false) hn) rfl (Nat.le_of_ble_eq_true rfl) (Or.inl (by first | exact hn | assumption)) (rcv_at (by first | exact rw_md hn | exact rw_w hn | exact rw_A hn (by exact rfl) | exact rw_B2 hn | exact rw_B3 hn | assumption) (by decide) (by decide)) (Nat.le_of_ble_eq_true rfl) (Nat.le_of_ble_eq_true rfl) (fun E w9 hq => hq.elim) ?_
      rintro v9 w9 ⟨rfl, rfl⟩
      refine x_ifeq rfl (fun c => ?_) (fun c => absurd rfl c)
      refine x_al rfl rfl ?_
      refine x_il rfl rfl ?_
      refine x_il rfl rfl ?_
      refine x_il rfl rfl ?_
      refine x_call4 (n_alikeOf hT hW hF1 hp hq hn) rfl (Nat.le_of_ble_eq_true rfl) (Or.inl (by first | exact hn | assumption)) (rcv_at (by first | exact rw_md hn | exact rw_w hn | exact rw_A hn (by exact rfl) | exact rw_B2 hn | exact rw_B3 hn | assumption) (by decide) (by decide)) (Nat.le_of_ble_eq_true rfl) (Nat.le_of_ble_eq_true rfl) (fun E w9 hq => hq.elim) ?_
      rintro v9 w9 ⟨M', A2, rfl, hk', hA', rfl⟩
      refine x_reti rfl (Nat.le_of_ble_eq_true rfl) (Nat.le_of_ble_eq_true rfl) rfl ?_
      rw [← hR, ← hT1, hcn, hcn2]
      exact opq_k hk' hA'
theorem r_person {x day : Int32} {n nc : Nat} (hT : WT f n) (hW : WP f) (hF1 : WF1 f nc) (hn : w.1 = N0) : Ev g (d + 15) 280 [.ref 1424, .int x, .int day] (rW w m f A B) (OpQ w m f A (some (.int (if okN x nc = true then leastF f n nc day (A 1437) (cN x) else 0))) (if okN x nc = true then 0 else 1)) noX := by
  have hnc := hF1.2.1
  refine ev_X11_person ?_ (Nat.le_of_ble_eq_true rfl)
  refine x_lo (lo' := [some (.ref 1424), some (.int x), some (.int day)]) rfl ?_
  refine x_al rfl rfl ?_
  refine x_c rfl ?_
  refine x_putM rfl hn rfl rfl rfl (mset_0 _ _) ?_
  refine x_al rfl rfl ?_
  refine x_al rfl rfl ?_
  refine x_il rfl rfl ?_
  refine x_call2 (n_noCard hF1.1 (by omega) hn) rfl (Nat.le_of_ble_eq_true rfl) (Or.inl (by first | exact hn | assumption)) (rcv_at (by first | exact rw_md hn | exact rw_w hn | exact rw_A hn (by exact rfl) | exact rw_B2 hn | exact rw_B3 hn | assumption) (by decide) (by decide)) (Nat.le_of_ble_eq_true rfl) (Nat.le_of_ble_eq_true rfl) (fun E w9 hq => hq.elim) ?_
  rintro v9 w9 ⟨rfl, rfl⟩
  refine x_c rfl ?_
  refine x_call3 (n_throwsIf hn) rfl (Nat.le_of_ble_eq_true rfl) (Or.inl (by first | exact hn | assumption)) (rcv_at (by first | exact rw_md hn | exact rw_w hn | exact rw_A hn (by exact rfl) | exact rw_B2 hn | exact rw_B3 hn | assumption) (by decide) (by decide)) (Nat.le_of_ble_eq_true rfl) (Nat.le_of_ble_eq_true rfl) (fun E w9 hq => hq.elim) ?_
  rintro v9 w9 ⟨rfl, rfl⟩
  cases hb : okN x nc with
  | false =>
    refine x_ifeq rfl (fun c => absurd c (show ¬ (1 : Int32) = 0 by decide)) (fun c => ?_)
    refine x_c rfl ?_
    refine x_reti rfl (Nat.le_of_ble_eq_true rfl) (Nat.le_of_ble_eq_true rfl) rfl ?_
    exact opq_t
  | true =>
    obtain ⟨p, hp, rfl, hcn⟩ := ok_of hb (by omega)
    refine x_ifeq rfl (fun c => ?_) (fun c => absurd rfl c)
    refine x_al rfl rfl ?_
    refine x_il rfl rfl ?_
    refine x_call2 (n_joins hT hW hF1 hn) rfl (Nat.le_of_ble_eq_true rfl) (Or.inl (by first | exact hn | assumption)) (rcv_at (by first | exact rw_md hn | exact rw_w hn | exact rw_A hn (by exact rfl) | exact rw_B2 hn | exact rw_B3 hn | assumption) (by decide) (by decide)) (Nat.le_of_ble_eq_true rfl) (Nat.le_of_ble_eq_true rfl) (fun E w9 hq => hq.elim) ?_
    rintro v9 w9 ⟨rfl, M', A2, rfl, hk', hA', hL⟩
    refine x_al rfl rfl ?_
    refine x_get rfl (rw_md hn) (by exact rfl) ?_
    refine x_il rfl rfl ?_
    refine x_iaN rfl (by first | exact rw_md hn | exact rw_w hn | exact rw_A hn (by exact rfl) | exact rw_B2 hn | exact rw_B3 hn | assumption) (by omega) ?_
    refine x_reti rfl (Nat.le_of_ble_eq_true rfl) (Nat.le_of_ble_eq_true rfl) rfl ?_
    rw [hcn, hL]
    exact opq_b hk' hA'
end CALLS
