/-! lay, look, count, check, tear; mset_ -/
def layW (b : bS) (v : Int32) : Int32 := if v = 0 then b.1 else if v = 1 then b.2.1 else if v = 2 then b.2.2.1 else if v = 3 then b.2.2.2.1 else b.2.2.2.2
/-- the row that i names, none when there is none -/
def rowN (h : Nat) (i : Int32) : Option Nat := if okN i (min 6 h) = true then some (11425 + 7 * (h - min 6 h + cN i)) else none
def chkF (f : Nat → Int32) (h : Nat) : Nat → Int32 := fun i => it (min 6 h) (fun c (_ : Unit) => if ¬ f (11425 + 7 * (h - min 6 h + c) + 4) = f (11425 + 7 * (h - min 6 h + c) + 6) then .inr (nI c) else .inl ()) (fun _ => -1) i ()
section CALLS
variable {g : aG} {d : Nat} {w : aW} {m f : Nat → Int32} {A : Nat → Nat → Int32} {B : Nat → Nat → Int64}
theorem r_lay {k p v : Int32} {nm np : Nat} (hW : WP f) (hm5 : f 5825 = nI nm) (h20 : nm ≤ 20) (hp4 : f 4 = nI np) (h60 : np ≤ 60) (hn : w.1 = N0) : Ev g (d + 14) 230 [.ref 1424, .int k, .int p, .int v] (rW w m f A B) (OpQ w m f A (some (.int (if (okN k nm = true ∧ okN p np = true) ∧ okN v 5 = true then layW (layMk f (cN k) (cN p)) v else 0))) (if okN k nm = true ∧ okN p np = true then (if okN v 5 = true then 0 else 2) else 1)) noX := by
  generalize hR : (if (okN k nm = true ∧ okN p np = true) ∧ okN v 5 = true then layW (layMk f (cN k) (cN p)) v else 0) = R
  generalize hT : (if okN k nm = true ∧ okN p np = true then (if okN v 5 = true then (0 : Int32) else 2) else 1) = T
  have bad : ¬ (okN k nm = true ∧ okN p np = true) → EX g mbOf (Ev g (d + 13)) (infoOf 230) k_X11_lay (OpQ w m f A (some (.int R)) T) noX w.1 (rW w (upd m 0 0) f A B) 0 0 15 [some (.ref 1424), some (.int k), some (.int p), some (.int v)] [.int (bI true), .ref 1424] := by
    intro h
    rw [if_neg (fun q => h q.1)] at hR
    rw [if_neg h] at hT
    subst hR; subst hT
    refine x_c rfl ?_
    refine x_call3 (n_throwsIf hn) rfl (Nat.le_of_ble_eq_true rfl) (Or.inl (by first | exact hn | assumption)) (rcv_at (by first | exact rw_md hn | exact rw_w hn | exact rw_A hn (by exact rfl) | exact rw_B2 hn | exact rw_B3 hn | assumption) (by decide) (by decide)) (Nat.le_of_ble_eq_true rfl) (Nat.le_of_ble_eq_true rfl) (fun E w9 hq => hq.elim) ?_
    rintro v9 w9 ⟨rfl, rfl⟩
    refine x_ifne rfl (fun c => ?_) (fun c => absurd c (show ¬ (1 : Int32) = 0 by decide))
    refine x_c rfl ?_
    refine x_reti rfl (Nat.le_of_ble_eq_true rfl) (Nat.le_of_ble_eq_true rfl) rfl ?_
    exact opq_t
  refine ev_X11_lay ?_ (Nat.le_of_ble_eq_true rfl)
  refine x_lo (lo' := [some (.ref 1424), some (.int k), some (.int p), some (.int v)]) rfl ?_
  refine x_al rfl rfl ?_
  refine x_c rfl ?_
  refine x_putM rfl hn rfl rfl rfl (mset_0 _ _) ?_
  refine x_al rfl rfl ?_
  refine x_al rfl rfl ?_
  refine x_il rfl rfl ?_
  refine x_call2 (n_noMark hm5 (by omega) hn) rfl (Nat.le_of_ble_eq_true rfl) (Or.inl (by first | exact hn | assumption)) (rcv_at (by first | exact rw_md hn | exact rw_w hn | exact rw_A hn (by exact rfl) | exact rw_B2 hn | exact rw_B3 hn | assumption) (by decide) (by decide)) (Nat.le_of_ble_eq_true rfl) (Nat.le_of_ble_eq_true rfl) (fun E w9 hq => hq.elim) ?_
  rintro v9 w9 ⟨rfl, rfl⟩
  cases hb : okN k nm with
  | false =>
    refine x_ifne rfl (fun c => ?_) (fun c => absurd c (show ¬ (1 : Int32) = 0 by decide))
    refine x_c rfl ?_
    refine x_go rfl ?_
    exact bad (fun q => by have h1 := q.1; rw [hb] at h1; exact absurd h1 (by decide))
  | true =>
    refine x_ifne rfl (fun c => absurd rfl c) (fun c => ?_)
    refine x_al rfl rfl ?_
    refine x_il rfl rfl ?_
    refine x_call2 (n_noPrint hp4 (by omega) hn) rfl (Nat.le_of_ble_eq_true rfl) (Or.inl (by first | exact hn | assumption)) (rcv_at (by first | exact rw_md hn | exact rw_w hn | exact rw_A hn (by exact rfl) | exact rw_B2 hn | exact rw_B3 hn | assumption) (by decide) (by decide)) (Nat.le_of_ble_eq_true rfl) (Nat.le_of_ble_eq_true rfl) (fun E w9 hq => hq.elim) ?_
    rintro v9 w9 ⟨rfl, rfl⟩
    cases hb2 : okN p np with
    | false =>
      refine x_ifeq rfl (fun c => absurd c (show ¬ (1 : Int32) = 0 by decide)) (fun c => ?_)
      refine x_c rfl ?_
      refine x_go rfl ?_
      exact bad (fun q => by have h1 := q.2; rw [hb2] at h1; exact absurd h1 (by decide))
    | true =>
      obtain ⟨z, hz, ez, hcn0⟩ := ok_of hb (by omega)
      obtain ⟨q, hq, eq, hcn⟩ := ok_of hb2 (by omega)
      have ok : okN k nm = true ∧ okN p np = true := ⟨hb, hb2⟩
      rw [if_pos ok] at hT
      rw [hcn0, hcn] at hR
      subst ez; subst eq
      refine x_ifeq rfl (fun c => ?_) (fun c => absurd rfl c)
      refine x_c rfl ?_
      refine x_c rfl ?_
      refine x_call3 (n_throwsIf (b := false) hn) rfl (Nat.le_of_ble_eq_true rfl) (Or.inl (by first | exact hn | assumption)) (rcv_at (by first | exact rw_md hn | exact rw_w hn | exact rw_A hn (by exact rfl) | exact rw_B2 hn | exact rw_B3 hn | assumption) (by decide) (by decide)) (Nat.le_of_ble_eq_true rfl) (Nat.le_of_ble_eq_true rfl) (fun E w9 hq => hq.elim) ?_
      rintro v9 w9 ⟨rfl, rfl⟩
      refine x_ifne rfl (fun c => absurd rfl c) (fun c => ?_)
      refine x_al rfl rfl ?_
      refine x_il rfl rfl ?_
      refine x_c rfl ?_
      refine x_c rfl ?_
      refine x_call3 (n_inN (n := 5) 4 (by decide) (by decide)) rfl (Nat.le_of_ble_eq_true rfl) (Or.inl (by first | exact hn | assumption)) trivial (Nat.le_of_ble_eq_true rfl) (Nat.le_of_ble_eq_true rfl) (fun E w9 hq => hq.elim) ?_
      rintro v9 w9 ⟨rfl, rfl⟩
      cases hb3 : okN v 5 with
      | false =>
        rw [if_neg (fun q => by have h1 := q.2; rw [hb3] at h1; exact absurd h1 (by decide))] at hR
        rw [if_neg (by rw [hb3]; decide)] at hT
        subst hR; subst hT
        refine x_ifne rfl (fun c => absurd rfl c) (fun c => ?_)
        refine x_c rfl ?_
        refine x_go rfl ?_
        refine x_c rfl ?_
        refine x_call3 (n_throwsIf (b := true) hn) rfl (Nat.le_of_ble_eq_true rfl) (Or.inl (by first | exact hn | assumption)) (rcv_at (by first | exact rw_md hn | exact rw_w hn | exact rw_A hn (by exact rfl) | exact rw_B2 hn | exact rw_B3 hn | assumption) (by decide) (by decide)) (Nat.le_of_ble_eq_true rfl) (Nat.le_of_ble_eq_true rfl) (fun E w9 hq => hq.elim) ?_
        rintro v9 w9 ⟨rfl, rfl⟩
        refine x_ifeq rfl (fun c => absurd c (show ¬ (1 : Int32) = 0 by decide)) (fun c => ?_)
        refine x_c rfl ?_
        refine x_reti rfl (Nat.le_of_ble_eq_true rfl) (Nat.le_of_ble_eq_true rfl) rfl ?_
        exact opq_t
      | true =>
        rw [if_pos ⟨ok, hb3⟩] at hR
        rw [if_pos hb3] at hT
        subst hR; subst hT
        obtain ⟨u, hu, eu, -⟩ := ok_of hb3 (by omega)
        refine x_ifne rfl (fun c => ?_) (fun c => absurd c (show ¬ (1 : Int32) = 0 by decide))
        refine x_c rfl ?_
        refine x_c rfl ?_
        refine x_call3 (n_throwsIf (b := false) hn) rfl (Nat.le_of_ble_eq_true rfl) (Or.inl (by first | exact hn | assumption)) (rcv_at (by first | exact rw_md hn | exact rw_w hn | exact rw_A hn (by exact rfl) | exact rw_B2 hn | exact rw_B3 hn | assumption) (by decide) (by decide)) (Nat.le_of_ble_eq_true rfl) (Nat.le_of_ble_eq_true rfl) (fun E w9 hq => hq.elim) ?_
        rintro v9 w9 ⟨rfl, rfl⟩
        refine x_ifeq rfl (fun c => ?_) (fun c => absurd rfl c)
        refine x_al rfl rfl ?_
        refine x_il rfl rfl ?_
        refine x_il rfl rfl ?_
        have h1 := hW.2 z (by omega)
        have h2 := hW.1 q (by omega)
        refine x_call3 (n_laysMark (by omega) (by omega) h1.1 h2.1 h1.2 h2.2 hn) rfl (Nat.le_of_ble_eq_true rfl) (Or.inl (by first | exact hn | assumption)) (rcv_at (by first | exact rw_md hn | exact rw_w hn | exact rw_A hn (by exact rfl) | exact rw_B2 hn | exact rw_B3 hn | assumption) (by decide) (by decide)) (Nat.le_of_ble_eq_true rfl) (Nat.le_of_ble_eq_true rfl) (fun E w9 hq => hq.elim) ?_
        rintro v9 w9 ⟨rfl, M', A2, rfl, hBM, hk', hA'⟩
        refine x_il rfl rfl ?_
        have hBM : BM M' (layMk f z q) := hBM
        generalize layMk f z q = b at *
        obtain ⟨b1, b2, b3, b4, b5⟩ := b
        obtain ⟨m1, m2, m3, m4, m5⟩ := hBM
        dsimp only at m1 m2 m3 m4 m5
        subst eu
        rcases (show u = 0 ∨ u = 1 ∨ u = 2 ∨ u = 3 ∨ u = 4 by omega) with rfl | rfl | rfl | rfl | rfl
        · refine x_swJ 0 rfl (by decide) rfl ?_
          refine x_al rfl rfl ?_
          refine x_get rfl (rw_md hn) (by exact rfl) ?_
          refine x_reti rfl (Nat.le_of_ble_eq_true rfl) (Nat.le_of_ble_eq_true rfl) rfl ?_
          rw [m1]
          exact opq_k hk' (keepA_B hA')
        · refine x_swJ 1 rfl (by decide) rfl ?_
          refine x_al rfl rfl ?_
          refine x_get rfl (rw_md hn) (by exact rfl) ?_
          refine x_reti rfl (Nat.le_of_ble_eq_true rfl) (Nat.le_of_ble_eq_true rfl) rfl ?_
          rw [m2]
          exact opq_k hk' (keepA_B hA')
        · refine x_swJ 2 rfl (by decide) rfl ?_
          refine x_al rfl rfl ?_
          refine x_get rfl (rw_md hn) (by exact rfl) ?_
          refine x_reti rfl (Nat.le_of_ble_eq_true rfl) (Nat.le_of_ble_eq_true rfl) rfl ?_
          rw [m3]
          exact opq_k hk' (keepA_B hA')
        · refine x_swJ 3 rfl (by decide) rfl ?_
          refine x_al rfl rfl ?_
          refine x_get rfl (rw_md hn) (by exact rfl) ?_
          refine x_reti rfl (Nat.le_of_ble_eq_true rfl) (Nat.le_of_ble_eq_true rfl) rfl ?_
          rw [m4]
          exact opq_k hk' (keepA_B hA')
        · refine x_swD rfl (by decide) ?_
          refine x_al rfl rfl ?_
          refine x_get rfl (rw_md hn) (by exact rfl) ?_
          refine x_reti rfl (Nat.le_of_ble_eq_true rfl) (Nat.le_of_ble_eq_true rfl) rfl ?_
          rw [m5]
          exact opq_k hk' (keepA_B hA')
theorem n_rowAt {i : Int32} {h : Nat} (hc : f 11424 = nI h) (h200 : h ≤ 200) (hn : w.1 = N0) : Ev g (d + 2) 294 [.ref 1424, .int i] (rW w m f A B) (RetQ (oI (rowN h i)) (rW w m f A B)) noX := by
  refine ev_X11_rowAt ?_ (Nat.le_of_ble_eq_true rfl)
  refine x_lo (lo' := [some (.ref 1424), some (.int i), none]) rfl ?_
  refine x_c rfl ?_
  refine x_al rfl rfl ?_
  refine x_get rfl (rw_md hn) (by exact rfl) ?_
  refine x_c rfl ?_
  refine x_iaN (j := 11424) rfl (by first | exact rw_md hn | exact rw_w hn | exact rw_A hn (by exact rfl) | exact rw_B2 hn | exact rw_B3 hn | assumption) (by omega) ?_
  rw [hc]
  refine x_call2 (m_minN (x := 6) (by omega)) rfl (Nat.le_of_ble_eq_true rfl) (Or.inl (by first | exact hn | assumption)) trivial (Nat.le_of_ble_eq_true rfl) (Nat.le_of_ble_eq_true rfl) (fun E w9 hq => hq.elim) ?_
  rintro v9 w9 ⟨rfl, rfl⟩
  refine x_is (lo' := [_, _, _]) rfl (Nat.le_of_ble_eq_true rfl) rfl ?_
  refine x_il rfl rfl ?_
  refine x_c rfl ?_
  refine x_il rfl rfl ?_
  refine x_c rfl ?_
  first | refine x_subN (y := 1) rfl (by omega) ?_ | refine x_sub rfl ?_
  refine x_call3 (n_inN (n := min 6 h) _ rfl (by omega)) rfl (Nat.le_of_ble_eq_true rfl) (Or.inl (by first | exact hn | assumption)) trivial (Nat.le_of_ble_eq_true rfl) (Nat.le_of_ble_eq_true rfl) (fun E w9 hq => hq.elim) ?_
  rintro v9 w9 ⟨rfl, rfl⟩
  unfold rowN
  cases hb : okN i (min 6 h) with
  | false =>
    refine x_ifeq rfl (fun c => ?_) (fun c => absurd rfl c)
    refine x_c rfl ?_
    refine x_reti rfl (Nat.le_of_ble_eq_true rfl) (Nat.le_of_ble_eq_true rfl) rfl ?_
    exact ⟨rfl, rfl⟩
  | true =>
    obtain ⟨p, hp, rfl, hcn⟩ := ok_of hb (by omega)
    refine x_ifeq rfl (fun c => absurd c (show ¬ (1 : Int32) = 0 by decide)) (fun c => ?_)
    refine x_c rfl ?_
    refine x_c rfl ?_
    refine x_al rfl rfl ?_
    refine x_get rfl (rw_md hn) (by exact rfl) ?_
    refine x_c rfl ?_
    refine x_iaN (j := 11424) rfl (by first | exact rw_md hn | exact rw_w hn | exact rw_A hn (by exact rfl) | exact rw_B2 hn | exact rw_B3 hn | assumption) (by omega) ?_
    rw [hc]
    refine x_il rfl rfl ?_
    first | refine x_subN rfl (by omega) ?_ | refine x_sub rfl ?_
    refine x_il rfl rfl ?_
    refine x_addN rfl ?_
    refine x_mulN (x := 7) rfl ?_
    refine x_addN (x := 11425) rfl ?_
    refine x_go rfl ?_
    refine x_reti rfl (Nat.le_of_ble_eq_true rfl) (Nat.le_of_ble_eq_true rfl) rfl ?_
    exact ⟨by rw [if_pos rfl, hcn]; rfl, rfl⟩
theorem n_rowN {i : Int32} {h r : Nat} (hr : rowN h i = some r) (hc : f 11424 = nI h) (h200 : h ≤ 200) (hn : w.1 = N0) : Ev g (d + 2) 294 [.ref 1424, .int i] (rW w m f A B) (RetQ (nI r) (rW w m f A B)) noX := by
  have := n_rowAt (g := g) (d := d) (m := m) (A := A) (B := B) (i := i) hc h200 hn
  rw [hr] at this
  exact this
theorem r_check {h : Nat} (hc : f 11424 = nI h) (h200 : h ≤ 200) (hn : w.1 = N0) : Ev g (d + 3) 296 [.ref 1424] (rW w m f A B) (OpQ w m f A (some (.int (chkF f h 0))) 0) noX := by
  refine ev_X11_check ?_ (Nat.le_of_ble_eq_true rfl)
  refine x_lo (lo' := [some (.ref 1424), none]) rfl ?_
  refine x_al rfl rfl ?_
  refine x_c rfl ?_
  refine x_putM rfl hn rfl rfl rfl (mset_0 _ _) ?_
  refine x_c rfl ?_
  refine x_is (lo' := [_, _]) rfl (Nat.le_of_ble_eq_true rfl) rfl ?_
  have loop : ∀ i, i ≤ min 6 h → EX g mbOf (Ev g (d + 2)) (infoOf 296) k_X11_check (OpQ w m f A (some (.int (chkF f h i))) 0) noX w.1 (rW w (upd m 0 0) f A B) 0 0 5 [some (.ref 1424), some (.int (nI i))] [] := by
    refine downN (min 6 h) fun i hi ih => ?_
    refine x_il rfl rfl ?_
    refine x_c rfl ?_
    refine x_al rfl rfl ?_
    refine x_get rfl (rw_md hn) (by exact rfl) ?_
    refine x_c rfl ?_
    refine x_iaN (j := 11424) rfl (by first | exact rw_md hn | exact rw_w hn | exact rw_A hn (by exact rfl) | exact rw_B2 hn | exact rw_B3 hn | assumption) (by omega) ?_
    rw [hc]
    refine x_call2 (m_minN (x := 6) (by omega)) rfl (Nat.le_of_ble_eq_true rfl) (Or.inl (by first | exact hn | assumption)) trivial (Nat.le_of_ble_eq_true rfl) (Nat.le_of_ble_eq_true rfl) (fun E w9 hq => hq.elim) ?_
    rintro v9 w9 ⟨rfl, rfl⟩
    refine x_icgeN rfl (by omega) (fun c0 => ?_) (fun c0 => ?_)
    · refine x_c rfl ?_
      refine x_reti rfl (Nat.le_of_ble_eq_true rfl) (Nat.le_of_ble_eq_true rfl) rfl ?_
      unfold chkF
      rw [it_end c0]
      exact opq_s
    refine x_al rfl rfl ?_
    refine x_get rfl (rw_md hn) (by exact rfl) ?_
    refine x_al rfl rfl ?_
    refine x_il rfl rfl ?_
    have ih := ih c0
    unfold chkF at ih ⊢
    have hok : okN (nI i) (min 6 h) = true := decide_eq_true ⟨nI_pos' (by omega), nI_lt c0 (by omega)⟩
    have hrow : rowN h (nI i) = some (11425 + 7 * (h - min 6 h + i)) := by
      unfold rowN
      rw [if_pos hok, show cN (nI i) = i from nI_clamp (by omega)]
    refine x_call2 (n_rowN hrow hc h200 hn) rfl (Nat.le_of_ble_eq_true rfl) (Or.inl (by first | exact hn | assumption)) (rcv_at (by first | exact rw_md hn | exact rw_w hn | exact rw_A hn (by exact rfl) | exact rw_B2 hn | exact rw_B3 hn | assumption) (by decide) (by decide)) (Nat.le_of_ble_eq_true rfl) (Nat.le_of_ble_eq_true rfl) (fun E w9 hq => hq.elim) ?_
    rintro v9 w9 ⟨rfl, rfl⟩
    refine x_c rfl ?_
    refine x_addN (y := 4) rfl ?_
    refine x_iaN rfl (by first | exact rw_md hn | exact rw_w hn | exact rw_A hn (by exact rfl) | exact rw_B2 hn | exact rw_B3 hn | assumption) (by omega) ?_
    refine x_al rfl rfl ?_
    refine x_get rfl (rw_md hn) (by exact rfl) ?_
    refine x_al rfl rfl ?_
    refine x_il rfl rfl ?_
    refine x_call2 (n_rowN hrow hc h200 hn) rfl (Nat.le_of_ble_eq_true rfl) (Or.inl (by first | exact hn | assumption)) (rcv_at (by first | exact rw_md hn | exact rw_w hn | exact rw_A hn (by exact rfl) | exact rw_B2 hn | exact rw_B3 hn | assumption) (by decide) (by decide)) (Nat.le_of_ble_eq_true rfl) (Nat.le_of_ble_eq_true rfl) (fun E w9 hq => hq.elim) ?_
    rintro v9 w9 ⟨rfl, rfl⟩
    refine x_c rfl ?_
    refine x_addN (y := 6) rfl ?_
    refine x_iaN rfl (by first | exact rw_md hn | exact rw_w hn | exact rw_A hn (by exact rfl) | exact rw_B2 hn | exact rw_B3 hn | assumption) (by omega) ?_
    refine x_iceq rfl (fun c1 => ?_) (fun c1 => ?_)
    · refine x_inc1 (lo' := [_, _]) rfl rfl rfl ?_
      refine x_go rfl ?_
      rw [it_go c0 (s' := ()) (if_neg (fun q => q c1))]
      exact ih
    refine x_il rfl rfl ?_
    refine x_reti rfl (Nat.le_of_ble_eq_true rfl) (Nat.le_of_ble_eq_true rfl) rfl ?_
    rw [it_ret c0 (r := nI i) (if_pos c1)]
    exact opq_s
  exact loop 0 (Nat.zero_le _)
def tearF (f : Nat → Int32) (mk : Int32) : Option Nat → (Nat → Int32) × Int32 × Int32
  | some r => (upd f (r + 4) (f (r + 4) ^^^ mk), f (r + 4) ^^^ mk, 0)
  | none => (f, 0, 1)
theorem r_tear {i mk : Int32} {h : Nat} (hc : f 11424 = nI h) (h200 : h ≤ 200) (hn : w.1 = N0) : Ev g (d + 3) 295 [.ref 1424, .int i, .int mk] (rW w m f A B) (OpQ w m (tearF f mk (rowN h i)).1 A (some (.int (tearF f mk (rowN h i)).2.1)) (tearF f mk (rowN h i)).2.2) noX := by
  refine ev_X11_tear ?_ (Nat.le_of_ble_eq_true rfl)
  refine x_lo (lo' := [some (.ref 1424), some (.int i), some (.int mk)]) rfl ?_
  refine x_al rfl rfl ?_
  refine x_c rfl ?_
  refine x_putM rfl hn rfl rfl rfl (mset_0 _ _) ?_
  refine x_al rfl rfl ?_
  refine x_al rfl rfl ?_
  refine x_il rfl rfl ?_
  refine x_call2 (n_rowAt hc h200 hn) rfl (Nat.le_of_ble_eq_true rfl) (Or.inl (by first | exact hn | assumption)) (rcv_at (by first | exact rw_md hn | exact rw_w hn | exact rw_A hn (by exact rfl) | exact rw_B2 hn | exact rw_B3 hn | assumption) (by decide) (by decide)) (Nat.le_of_ble_eq_true rfl) (Nat.le_of_ble_eq_true rfl) (fun E w9 hq => hq.elim) ?_
  rintro v9 w9 ⟨rfl, rfl⟩
  have hr2 : ∀ r, rowN h i = some r → r < 11425 + 1400 := by
    intro r hr
    unfold rowN at hr
    split at hr
    · rename_i hb
      obtain ⟨p, hp, -, hcn⟩ := ok_of hb (by omega)
      cases hr
      rw [hcn]
      omega
    · cases hr
  cases hr : rowN h i with
  | none =>
    refine x_ifge rfl (fun c => absurd c (show ¬ (0 : Int32) ≤ -1 by decide)) (fun c => ?_)
    refine x_c rfl ?_
    refine x_go rfl ?_
    refine x_c rfl ?_
    refine x_call3 (n_throwsIf (b := true) hn) rfl (Nat.le_of_ble_eq_true rfl) (Or.inl (by first | exact hn | assumption)) (rcv_at (by first | exact rw_md hn | exact rw_w hn | exact rw_A hn (by exact rfl) | exact rw_B2 hn | exact rw_B3 hn | assumption) (by decide) (by decide)) (Nat.le_of_ble_eq_true rfl) (Nat.le_of_ble_eq_true rfl) (fun E w9 hq => hq.elim) ?_
    rintro v9 w9 ⟨rfl, rfl⟩
    refine x_ifeq rfl (fun c => absurd c (show ¬ (1 : Int32) = 0 by decide)) (fun c => ?_)
    refine x_c rfl ?_
    refine x_reti rfl (Nat.le_of_ble_eq_true rfl) (Nat.le_of_ble_eq_true rfl) rfl ?_
    exact opq_t
  | some r =>
    have hr2 := hr2 r hr
    refine x_ifge rfl (fun c => ?_) (fun c => absurd (nI_pos' (show r < 2 ^ 31 by omega)) c)
    refine x_c rfl ?_
    refine x_c rfl ?_
    refine x_call3 (n_throwsIf (b := false) hn) rfl (Nat.le_of_ble_eq_true rfl) (Or.inl (by first | exact hn | assumption)) (rcv_at (by first | exact rw_md hn | exact rw_w hn | exact rw_A hn (by exact rfl) | exact rw_B2 hn | exact rw_B3 hn | assumption) (by decide) (by decide)) (Nat.le_of_ble_eq_true rfl) (Nat.le_of_ble_eq_true rfl) (fun E w9 hq => hq.elim) ?_
    rintro v9 w9 ⟨rfl, rfl⟩
    refine x_ifeq rfl (fun c => ?_) (fun c => absurd rfl c)
    refine x_al rfl rfl ?_
    refine x_get rfl (rw_md hn) (by exact rfl) ?_
    refine x_al rfl rfl ?_
    refine x_il rfl rfl ?_
    refine x_call2 (n_rowN hr hc h200 hn) rfl (Nat.le_of_ble_eq_true rfl) (Or.inl (by first | exact hn | assumption)) (rcv_at (by first | exact rw_md hn | exact rw_w hn | exact rw_A hn (by exact rfl) | exact rw_B2 hn | exact rw_B3 hn | assumption) (by decide) (by decide)) (Nat.le_of_ble_eq_true rfl) (Nat.le_of_ble_eq_true rfl) (fun E w9 hq => hq.elim) ?_
    rintro v9 w9 ⟨rfl, rfl⟩
    refine x_c rfl ?_
    refine x_addN (y := 4) rfl ?_
    refine x_dup2 rfl rfl rfl ?_
    refine x_iaN rfl (by first | exact rw_md hn | exact rw_w hn | exact rw_A hn (by exact rfl) | exact rw_B2 hn | exact rw_B3 hn | assumption) (by omega) ?_
    refine x_il rfl rfl ?_
    refine x_xor rfl ?_
    first | refine x_iasW rfl hn (by omega) ?_ | refine x_iasA rfl hn (by exact rfl) (by omega) ?_
    refine x_al rfl rfl ?_
    refine x_get rfl (rw_md hn) (by exact rfl) ?_
    refine x_al rfl rfl ?_
    refine x_il rfl rfl ?_
    have hc2 : upd f (r + 4) (f (r + 4) ^^^ mk) 11424 = nI h := (pk_un (by
      intro e
      unfold rowN at hr
      split at hr
      · cases hr; omega
      · cases hr)).trans hc
    refine x_call2 (n_rowN hr hc2 h200 hn) rfl (Nat.le_of_ble_eq_true rfl) (Or.inl (by first | exact hn | assumption)) (rcv_at (by first | exact rw_md hn | exact rw_w hn | exact rw_A hn (by exact rfl) | exact rw_B2 hn | exact rw_B3 hn | assumption) (by decide) (by decide)) (Nat.le_of_ble_eq_true rfl) (Nat.le_of_ble_eq_true rfl) (fun E w9 hq => hq.elim) ?_
    rintro v9 w9 ⟨rfl, rfl⟩
    refine x_c rfl ?_
    refine x_addN (y := 4) rfl ?_
    refine x_iaN rfl (by first | exact rw_md hn | exact rw_w hn | exact rw_A hn (by exact rfl) | exact rw_B2 hn | exact rw_B3 hn | assumption) (by omega) ?_
    refine x_reti rfl (Nat.le_of_ble_eq_true rfl) (Nat.le_of_ble_eq_true rfl) rfl ?_
    rw [pk_us]
    exact opq_s
end CALLS
