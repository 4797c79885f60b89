/-! the State is copied; cw_ -/
section CALLS
variable {g : aG} {d : Nat} {w : aW} {F A : Nat → Nat → Int32} {L : Nat → Int64} {f : Nat → Int32} {np nm nc nt ns nh : Nat}
theorem c_copyState {q p : Nat} (hqp : (q = 6 ∧ p = 701) ∨ (q = 701 ∧ p = 6)) (hR : RS F A f p np nm nc nt ns nh) (hI : IV f np nm nc nt ns nh) (hno : F (q + 5) 1 = 0) (hn : w.1 = N0) : Ev g (d + 5) 83 [.ref q, .ref p] (cW w F A L) (fun v w' => v = none ∧ ∃ F' A', w' = cW w F' A' L ∧ RS F' A' f q np nm nc nt ns nh ∧ ∀ r, (r < q ∨ q + 695 ≤ r) → F' r = F r ∧ A' r = A r) noX := by
  have h60 := hI.p60
  have h20 := hI.m20
  have h16 := hI.c16
  have h10 := hI.t10
  have h200 := hI.s200
  have hh200 := hI.h200
  have hW := hI.wp
  have hq : q = 6 ∨ q = 701 := by omega
  have hp : p = 6 ∨ p = 701 := by omega
  have sq1 := st_1 hq
  have sq2 := st_2 hq
  have sq3 := st_3 hq
  have sq4 := st_4 hq
  have sp1 := st_1 hp
  have sp2 := st_2 hp
  have sp3 := st_3 hp
  have sp4 := st_4 hp
  have tq11 : TbAt (q + 11) 200 6 := by
    rcases hq with rfl | rfl
    · exact tbS
    · exact tbSi
  have tp11 : TbAt (p + 11) 200 6 := by
    rcases hp with rfl | rfl
    · exact tbS
    · exact tbSi
  have tq13 : TbAt (q + 13) 200 7 := by
    rcases hq with rfl | rfl
    · exact tbH
    · exact tbHi
  have tp13 : TbAt (p + 13) 200 7 := by
    rcases hp with rfl | rfl
    · exact tbH
    · exact tbHi
  obtain ⟨⟨r0, r1, r2, r3, r4, r5, r6, r7⟩, rP, rM, rC, rT, rN, rS, rH⟩ := hR
  have l100 : ∀ (F1 A1 : Nat → Nat → Int32) (z : Option Value), (∀ r, (r < q ∨ q + 695 ≤ r) → F1 r = F r ∧ A1 r = A r) → (∀ k, k < 8 → F1 q k = F p k) → F1 (q + 5) 1 = 0 → (∀ x, x < np → RsP F1 A1 f (q + 15 + 7 * x) x) → (∀ x, x < nm → RsM F1 A1 f (q + 435 + 6 * x) x) → (∀ x, x < nc → RsC F1 A1 f (q + 555 + 5 * x) x) → (∀ x, x < nt → ∃ r, TxS F1 A1 (q + 635 + 6 * x) f x r) → EX g mbOf (Ev g (d + 4)) (infoOf 83) k_X7_copyFrom (fun v w' => v = none ∧ ∃ F' A', w' = cW w F' A' L ∧ RS F' A' f q np nm nc nt ns nh ∧ ∀ r, (r < q ∨ q + 695 ≤ r) → F' r = F r ∧ A' r = A r) noX w.1 (cW w F1 A1 L) 0 0 100 [some (.ref q), some (.ref p), z] [] := by
    intro F1 A1 z hfr hfq hno1 hP hM hC hT
    have eF : ∀ r, p ≤ r → r < p + 695 → F1 r = F r ∧ A1 r = A r := fun r h1 h2 => hfr r (by omega)
    refine x_al rfl rfl ?_
    refine x_getC rfl hn (by with_reducible exact (by first | exact sp_6 | exact st_0 (by assumption))) (by exact rfl) ?_
    refine x_al rfl rfl ?_
    refine x_getC rfl hn (by with_reducible exact (by first | exact sp_6 | exact st_0 (by assumption))) (by exact rfl) ?_
    refine x_call2 (c_copyTab (q := q + 11) (p := p + 11) tq11 tp11 ((congrFun (eF (p + 11) (by omega) (by omega)).1 3).trans rS.1) h200 (by decide) (by decide) (by omega) hn) rfl (Nat.le_of_ble_eq_true rfl) (Or.inl (by first | exact hn | assumption)) (rcv_at (cw_fs (by with_reducible exact tb_0 (by first | assumption | exact tbS | exact tbH)) hn) (by decide) (by decide)) (Nat.le_of_ble_eq_true rfl) (Nat.le_of_ble_eq_true rfl) (fun E w9 hq => hq.elim) ?_
    rintro v9 w9 ⟨rfl, F2, A2, rfl, a1, a2, a3⟩
    refine x_al rfl rfl ?_
    refine x_getC rfl hn (by with_reducible exact (by first | exact sp_6 | exact st_0 (by assumption))) (by exact rfl) ?_
    refine x_al rfl rfl ?_
    refine x_getC rfl hn (by with_reducible exact (by first | exact sp_6 | exact st_0 (by assumption))) (by exact rfl) ?_
    have eF2 : ∀ r, p ≤ r → r < p + 695 → F2 r = F r ∧ A2 r = A r := fun r h1 h2 => ⟨(a3 r (by omega)).1.trans (eF r h1 h2).1, (a3 r (by omega)).2.trans (eF r h1 h2).2⟩
    refine x_call2 (c_copyTab (q := q + 13) (p := p + 13) tq13 tp13 ((congrFun (eF2 (p + 13) (by omega) (by omega)).1 3).trans rH.1) hh200 (by decide) (by decide) (by omega) hn) rfl (Nat.le_of_ble_eq_true rfl) (Or.inl (by first | exact hn | assumption)) (rcv_at (cw_fs (by with_reducible exact tb_0 (by first | assumption | exact tbS | exact tbH)) hn) (by decide) (by decide)) (Nat.le_of_ble_eq_true rfl) (Nat.le_of_ble_eq_true rfl) (fun E w9 hq => hq.elim) ?_
    rintro v9 w9 ⟨rfl, F3, A3, rfl, b1, b2, b3⟩
    refine x_retv rfl (Nat.le_of_ble_eq_true rfl) (Nat.le_of_ble_eq_true rfl) rfl ?_
    have k3 : ∀ r, (r < q + 11 ∨ q + 15 ≤ r) → F3 r = F1 r ∧ A3 r = A1 r := fun r hr => ⟨(b3 r (by omega)).1.trans (a3 r (by omega)).1, (b3 r (by omega)).2.trans (a3 r (by omega)).2⟩
    refine ⟨rfl, F3, A3, rfl, ⟨⟨?_, ?_, ?_, ?_, ?_, ?_, ?_, ?_⟩, fun x hx => (hP x hx).keep fun r h1 h2 => k3 r (by omega), fun x hx => (hM x hx).keep fun r h1 h2 => k3 r (by omega), fun x hx => (hC x hx).keep fun r h1 h2 => k3 r (by omega), fun x hx => ?_, ?_, ⟨?_, fun r hr c hc => ?_⟩, b1, fun r hr c hc => ?_⟩, fun r hr => ⟨(k3 r (by omega)).1.trans (hfr r hr).1, (k3 r (by omega)).2.trans (hfr r hr).2⟩⟩
    · rw [(k3 q (by omega)).1, hfq 0 (by decide)]; exact r0
    · rw [(k3 q (by omega)).1, hfq 1 (by decide)]; exact r1
    · rw [(k3 q (by omega)).1, hfq 2 (by decide)]; exact r2
    · rw [(k3 q (by omega)).1, hfq 3 (by decide)]; exact r3
    · rw [(k3 q (by omega)).1, hfq 4 (by decide)]; exact r4
    · rw [(k3 q (by omega)).1, hfq 5 (by decide)]; exact r5
    · rw [(k3 q (by omega)).1, hfq 6 (by decide)]; exact r6
    · rw [(k3 q (by omega)).1, hfq 7 (by decide)]; exact r7
    · obtain ⟨r, hr⟩ := hT x hx
      exact ⟨r, hr.keep fun r h1 h2 => k3 r (by omega)⟩
    · rw [(k3 (q + 5) (by omega)).1]; exact hno1
    · rw [(b3 (q + 11) (by omega)).1]; exact a1
    · rw [(b3 (q + 11 + 1) (by omega)).2, a2 _ (by omega), (eF (p + 11 + 1) (by omega) (by omega)).2]
      exact rS.2 r hr c hc
    · rw [b2 _ (by omega), (eF2 (p + 13 + 1) (by omega) (by omega)).2]
      exact rH.2 r hr c hc
  have loopT : ∀ i, i ≤ nt → ∀ (F1 A1 : Nat → Nat → Int32), (∀ r, (r < q ∨ q + 695 ≤ r) → F1 r = F r ∧ A1 r = A r) → (∀ k, k < 8 → F1 q k = F p k) → F1 (q + 5) 1 = 0 → (∀ x, x < np → RsP F1 A1 f (q + 15 + 7 * x) x) → (∀ x, x < nm → RsM F1 A1 f (q + 435 + 6 * x) x) → (∀ x, x < nc → RsC F1 A1 f (q + 555 + 5 * x) x) → (∀ x, x < i → ∃ r, TxS F1 A1 (q + 635 + 6 * x) f x r) → EX g mbOf (Ev g (d + 4)) (infoOf 83) k_X7_copyFrom (fun v w' => v = none ∧ ∃ F' A', w' = cW w F' A' L ∧ RS F' A' f q np nm nc nt ns nh ∧ ∀ r, (r < q ∨ q + 695 ≤ r) → F' r = F r ∧ A' r = A r) noX w.1 (cW w F1 A1 L) 0 0 85 [some (.ref q), some (.ref p), some (.int (nI i))] [] := by
    refine downN nt fun i hi ih => ?_
    intro F1 A1 hfr hfq hno1 hP hM hC hT
    have eF : ∀ r, p ≤ r → r < p + 695 → F1 r = F r ∧ A1 r = A r := fun r h1 h2 => hfr r (by omega)
    have eN : F1 q 7 = nI nt := (hfq 7 (by decide)).trans r7
    refine x_il rfl rfl ?_
    refine x_al rfl rfl ?_
    refine x_getC rfl hn (by with_reducible exact (by first | exact sp_6 | exact st_0 (by assumption))) (by exact rfl) ?_
    rw [eN]
    refine x_icgeN rfl (by omega) (fun c0 => ?_) (fun c0 => ?_)
    · skip
      exact l100 F1 A1 _ hfr hfq hno1 hP hM hC (fun x hx => hT x (by omega))
    refine x_al rfl rfl ?_
    refine x_getC rfl hn (by with_reducible exact (by first | exact sp_6 | exact st_0 (by assumption))) (by exact rfl) ?_
    refine x_il rfl rfl ?_
    obtain ⟨ri, hri⟩ := rT i c0
    refine x_aaC rfl hn (by with_reducible exact sq4) (by decide) (by omega) ?_
    refine x_al rfl rfl ?_
    refine x_getC rfl hn (by with_reducible exact (by first | exact sp_6 | exact st_0 (by assumption))) (by exact rfl) ?_
    refine x_il rfl rfl ?_
    refine x_aaC rfl hn (by with_reducible exact sp4) (by decide) (by omega) ?_
    refine x_call2 (c_copyText (q := q + 635 + 6 * i) (p := p + 635 + 6 * i) (teB hq (by omega)) (teB hp (by omega)) (by omega) hn) rfl (Nat.le_of_ble_eq_true rfl) (Or.inl (by first | exact hn | assumption)) (rcv_at (cw_fs (by with_reducible exact te_0 (by first | assumption | exact teA (by omega) | exact teN | exact teD | exact te_b (by assumption) | exact teB (by assumption) (by omega))) hn) (by decide) (by decide)) (Nat.le_of_ble_eq_true rfl) (Nat.le_of_ble_eq_true rfl) (fun E w9 hq => hq.elim) ?_
    rintro v9 w9 ⟨rfl, F2, A2, rfl, hcp⟩
    refine x_inc1 (lo' := [_, _, _]) rfl rfl rfl ?_
    refine x_go rfl ?_
    have kf : ∀ r, (r < q + 635 + 6 * i ∨ q + 635 + 6 * i + 6 ≤ r) → F2 r = F1 r ∧ A2 r = A1 r := hcp.2.2.2
    refine ih c0 F2 A2 (fun r hr => ⟨(kf r (by omega)).1.trans (hfr r hr).1, (kf r (by omega)).2.trans (hfr r hr).2⟩) (fun k hk => by rw [(kf q (by omega)).1]; exact hfq k hk) (by rw [(kf (q + 5) (by omega)).1]; exact hno1) (fun x hx => (hP x hx).keep fun r h1 h2 => kf r (by omega)) (fun x hx => (hM x hx).keep fun r h1 h2 => kf r (by omega)) (fun x hx => (hC x hx).keep fun r h1 h2 => kf r (by omega)) (fun x hx => ?_)
    by_cases ex : x = i
    · rw [ex]
      exact ⟨ri, TxS.cp (hri.keep fun r h1 h2 => eF r (by omega) (by omega)) hcp⟩
    · obtain ⟨r, hr⟩ := hT x (by omega)
      exact ⟨r, hr.keep fun r h1 h2 => kf r (by omega)⟩
  have loopC : ∀ i, i ≤ nc → ∀ (F1 A1 : Nat → Nat → Int32), (∀ r, (r < q ∨ q + 695 ≤ r) → F1 r = F r ∧ A1 r = A r) → (∀ k, k < 8 → F1 q k = F p k) → F1 (q + 5) 1 = 0 → (∀ x, x < np → RsP F1 A1 f (q + 15 + 7 * x) x) → (∀ x, x < nm → RsM F1 A1 f (q + 435 + 6 * x) x) → (∀ x, x < i → RsC F1 A1 f (q + 555 + 5 * x) x) → EX g mbOf (Ev g (d + 4)) (infoOf 83) k_X7_copyFrom (fun v w' => v = none ∧ ∃ F' A', w' = cW w F' A' L ∧ RS F' A' f q np nm nc nt ns nh ∧ ∀ r, (r < q ∨ q + 695 ≤ r) → F' r = F r ∧ A' r = A r) noX w.1 (cW w F1 A1 L) 0 0 68 [some (.ref q), some (.ref p), some (.int (nI i))] [] := by
    refine downN nc fun i hi ih => ?_
    intro F1 A1 hfr hfq hno1 hP hM hC
    have eF : ∀ r, p ≤ r → r < p + 695 → F1 r = F r ∧ A1 r = A r := fun r h1 h2 => hfr r (by omega)
    have eN : F1 q 6 = nI nc := (hfq 6 (by decide)).trans r6
    refine x_il rfl rfl ?_
    refine x_al rfl rfl ?_
    refine x_getC rfl hn (by with_reducible exact (by first | exact sp_6 | exact st_0 (by assumption))) (by exact rfl) ?_
    rw [eN]
    refine x_icgeN rfl (by omega) (fun c0 => ?_) (fun c0 => ?_)
    · refine x_c rfl ?_
      refine x_is (lo' := [_, _, _]) rfl (Nat.le_of_ble_eq_true rfl) rfl ?_
      exact loopT 0 (Nat.zero_le _) F1 A1 hfr hfq hno1 hP hM (fun x hx => hC x (by omega)) (fun x hx => absurd hx (Nat.not_lt_zero _))
    refine x_al rfl rfl ?_
    refine x_getC rfl hn (by with_reducible exact (by first | exact sp_6 | exact st_0 (by assumption))) (by exact rfl) ?_
    refine x_il rfl rfl ?_
    refine x_aaC rfl hn (by with_reducible exact sq3) (by decide) (by omega) ?_
    refine x_al rfl rfl ?_
    refine x_getC rfl hn (by with_reducible exact (by first | exact sp_6 | exact st_0 (by assumption))) (by exact rfl) ?_
    refine x_il rfl rfl ?_
    refine x_aaC rfl hn (by with_reducible exact sp3) (by decide) (by omega) ?_
    refine x_call2 (c_copyCard (q := q + 555 + 5 * i) (p := p + 555 + 5 * i) (caB hq (by omega)) (caB hp (by omega)) (by omega) hn) rfl (Nat.le_of_ble_eq_true rfl) (Or.inl (by first | exact hn | assumption)) (rcv_at (cw_fs (by with_reducible exact ca_0 (by first | assumption | exact caA (by omega) | exact caB (by assumption) (by omega))) hn) (by decide) (by decide)) (Nat.le_of_ble_eq_true rfl) (Nat.le_of_ble_eq_true rfl) (fun E w9 hq => hq.elim) ?_
    rintro v9 w9 ⟨rfl, F2, A2, rfl, hcp⟩
    refine x_inc1 (lo' := [_, _, _]) rfl rfl rfl ?_
    refine x_go rfl ?_
    have kf : ∀ r, (r < q + 555 + 5 * i ∨ q + 555 + 5 * i + 5 ≤ r) → F2 r = F1 r ∧ A2 r = A1 r := hcp.2.2.2
    refine ih c0 F2 A2 (fun r hr => ⟨(kf r (by omega)).1.trans (hfr r hr).1, (kf r (by omega)).2.trans (hfr r hr).2⟩) (fun k hk => by rw [(kf q (by omega)).1]; exact hfq k hk) (by rw [(kf (q + 5) (by omega)).1]; exact hno1) (fun x hx => (hP x hx).keep fun r h1 h2 => kf r (by omega)) (fun x hx => (hM x hx).keep fun r h1 h2 => kf r (by omega)) (fun x hx => ?_)
    by_cases ex : x = i
    · rw [ex]
      exact RsC.cp ((rC i c0).keep fun r h1 h2 => eF r (by omega) (by omega)) hcp
    · exact (hC x (by omega)).keep fun r h1 h2 => kf r (by omega)
  have loopM : ∀ i, i ≤ nm → ∀ (F1 A1 : Nat → Nat → Int32), (∀ r, (r < q ∨ q + 695 ≤ r) → F1 r = F r ∧ A1 r = A r) → (∀ k, k < 8 → F1 q k = F p k) → F1 (q + 5) 1 = 0 → (∀ x, x < np → RsP F1 A1 f (q + 15 + 7 * x) x) → (∀ x, x < i → RsM F1 A1 f (q + 435 + 6 * x) x) → EX g mbOf (Ev g (d + 4)) (infoOf 83) k_X7_copyFrom (fun v w' => v = none ∧ ∃ F' A', w' = cW w F' A' L ∧ RS F' A' f q np nm nc nt ns nh ∧ ∀ r, (r < q ∨ q + 695 ≤ r) → F' r = F r ∧ A' r = A r) noX w.1 (cW w F1 A1 L) 0 0 51 [some (.ref q), some (.ref p), some (.int (nI i))] [] := by
    refine downN nm fun i hi ih => ?_
    intro F1 A1 hfr hfq hno1 hP hM
    have eF : ∀ r, p ≤ r → r < p + 695 → F1 r = F r ∧ A1 r = A r := fun r h1 h2 => hfr r (by omega)
    have eN : F1 q 5 = nI nm := (hfq 5 (by decide)).trans r5
    refine x_il rfl rfl ?_
    refine x_al rfl rfl ?_
    refine x_getC rfl hn (by with_reducible exact (by first | exact sp_6 | exact st_0 (by assumption))) (by exact rfl) ?_
    rw [eN]
    refine x_icgeN rfl (by omega) (fun c0 => ?_) (fun c0 => ?_)
    · refine x_c rfl ?_
      refine x_is (lo' := [_, _, _]) rfl (Nat.le_of_ble_eq_true rfl) rfl ?_
      exact loopC 0 (Nat.zero_le _) F1 A1 hfr hfq hno1 hP (fun x hx => hM x (by omega)) (fun x hx => absurd hx (Nat.not_lt_zero _))
    refine x_al rfl rfl ?_
    refine x_getC rfl hn (by with_reducible exact (by first | exact sp_6 | exact st_0 (by assumption))) (by exact rfl) ?_
    refine x_il rfl rfl ?_
    obtain ⟨bg, hbf⟩ := (hI.ma c0).2
    have hbg : F1 (p + 435 + 6 * i) 1 = bI bg := by rw [(eF (p + 435 + 6 * i) (by omega) (by omega)).1, (rM i c0).2.2.1]; exact hbf
    refine x_aaC rfl hn (by with_reducible exact sq2) (by decide) (by omega) ?_
    refine x_al rfl rfl ?_
    refine x_getC rfl hn (by with_reducible exact (by first | exact sp_6 | exact st_0 (by assumption))) (by exact rfl) ?_
    refine x_il rfl rfl ?_
    refine x_aaC rfl hn (by with_reducible exact sp2) (by decide) (by omega) ?_
    refine x_call2 (c_copyMark (q := q + 435 + 6 * i) (p := p + 435 + 6 * i) (bg := bg) (maB hq (by omega)) (maB hp (by omega)) (by omega) hbg hn) rfl (Nat.le_of_ble_eq_true rfl) (Or.inl (by first | exact hn | assumption)) (rcv_at (cw_fs (by with_reducible exact ma_0 (by first | assumption | exact maA (by omega) | exact maB (by assumption) (by omega))) hn) (by decide) (by decide)) (Nat.le_of_ble_eq_true rfl) (Nat.le_of_ble_eq_true rfl) (fun E w9 hq => hq.elim) ?_
    rintro v9 w9 ⟨rfl, F2, A2, rfl, hcp⟩
    refine x_inc1 (lo' := [_, _, _]) rfl rfl rfl ?_
    refine x_go rfl ?_
    have kf : ∀ r, (r < q + 435 + 6 * i ∨ q + 435 + 6 * i + 6 ≤ r) → F2 r = F1 r ∧ A2 r = A1 r := hcp.2.2.2
    refine ih c0 F2 A2 (fun r hr => ⟨(kf r (by omega)).1.trans (hfr r hr).1, (kf r (by omega)).2.trans (hfr r hr).2⟩) (fun k hk => by rw [(kf q (by omega)).1]; exact hfq k hk) (by rw [(kf (q + 5) (by omega)).1]; exact hno1) (fun x hx => (hP x hx).keep fun r h1 h2 => kf r (by omega)) (fun x hx => ?_)
    by_cases ex : x = i
    · rw [ex]
      exact RsM.cp ((rM i c0).keep fun r h1 h2 => eF r (by omega) (by omega)) hcp (wp_m hW (by omega))
    · exact (hM x (by omega)).keep fun r h1 h2 => kf r (by omega)
  have loopP : ∀ i, i ≤ np → ∀ (F1 A1 : Nat → Nat → Int32), (∀ r, (r < q ∨ q + 695 ≤ r) → F1 r = F r ∧ A1 r = A r) → (∀ k, k < 8 → F1 q k = F p k) → F1 (q + 5) 1 = 0 → (∀ x, x < i → RsP F1 A1 f (q + 15 + 7 * x) x) → EX g mbOf (Ev g (d + 4)) (infoOf 83) k_X7_copyFrom (fun v w' => v = none ∧ ∃ F' A', w' = cW w F' A' L ∧ RS F' A' f q np nm nc nt ns nh ∧ ∀ r, (r < q ∨ q + 695 ≤ r) → F' r = F r ∧ A' r = A r) noX w.1 (cW w F1 A1 L) 0 0 34 [some (.ref q), some (.ref p), some (.int (nI i))] [] := by
    refine downN np fun i hi ih => ?_
    intro F1 A1 hfr hfq hno1 hP
    have eF : ∀ r, p ≤ r → r < p + 695 → F1 r = F r ∧ A1 r = A r := fun r h1 h2 => hfr r (by omega)
    have eN : F1 q 4 = nI np := (hfq 4 (by decide)).trans r4
    refine x_il rfl rfl ?_
    refine x_al rfl rfl ?_
    refine x_getC rfl hn (by with_reducible exact (by first | exact sp_6 | exact st_0 (by assumption))) (by exact rfl) ?_
    rw [eN]
    refine x_icgeN rfl (by omega) (fun c0 => ?_) (fun c0 => ?_)
    · refine x_c rfl ?_
      refine x_is (lo' := [_, _, _]) rfl (Nat.le_of_ble_eq_true rfl) rfl ?_
      exact loopM 0 (Nat.zero_le _) F1 A1 hfr hfq hno1 (fun x hx => hP x (by omega)) (fun x hx => absurd hx (Nat.not_lt_zero _))
    refine x_al rfl rfl ?_
    refine x_getC rfl hn (by with_reducible exact (by first | exact sp_6 | exact st_0 (by assumption))) (by exact rfl) ?_
    refine x_il rfl rfl ?_
    refine x_aaC rfl hn (by with_reducible exact sq1) (by decide) (by omega) ?_
    refine x_al rfl rfl ?_
    refine x_getC rfl hn (by with_reducible exact (by first | exact sp_6 | exact st_0 (by assumption))) (by exact rfl) ?_
    refine x_il rfl rfl ?_
    refine x_aaC rfl hn (by with_reducible exact sp1) (by decide) (by omega) ?_
    refine x_call2 (c_copyPrint (q := q + 15 + 7 * i) (p := p + 15 + 7 * i) (prB hq (by omega)) (prB hp (by omega)) (by omega) hn) rfl (Nat.le_of_ble_eq_true rfl) (Or.inl (by first | exact hn | assumption)) (rcv_at (cw_fs (by with_reducible exact pr_0 (by first | assumption | exact prA (by omega) | exact prD | exact prB (by assumption) (by omega))) hn) (by decide) (by decide)) (Nat.le_of_ble_eq_true rfl) (Nat.le_of_ble_eq_true rfl) (fun E w9 hq => hq.elim) ?_
    rintro v9 w9 ⟨rfl, F2, A2, rfl, hcp⟩
    refine x_inc1 (lo' := [_, _, _]) rfl rfl rfl ?_
    refine x_go rfl ?_
    have kf : ∀ r, (r < q + 15 + 7 * i ∨ q + 15 + 7 * i + 7 ≤ r) → F2 r = F1 r ∧ A2 r = A1 r := hcp.2.2.2.2.2.2
    refine ih c0 F2 A2 (fun r hr => ⟨(kf r (by omega)).1.trans (hfr r hr).1, (kf r (by omega)).2.trans (hfr r hr).2⟩) (fun k hk => by rw [(kf q (by omega)).1]; exact hfq k hk) (by rw [(kf (q + 5) (by omega)).1]; exact hno1)  (fun x hx => ?_)
    by_cases ex : x = i
    · rw [ex]
      exact RsP.cp ((rP i c0).keep fun r h1 h2 => eF r (by omega) (by omega)) hcp (wp_p hW (by omega))
    · exact (hP x (by omega)).keep fun r h1 h2 => kf r (by omega)
  refine ev_X7_copyFrom ?_ (Nat.le_of_ble_eq_true rfl)
  refine x_lo (lo' := [some (.ref q), some (.ref p), none]) rfl ?_
  refine x_al rfl rfl ?_
  refine x_al rfl rfl ?_
  refine x_getC rfl hn (by with_reducible exact (by first | exact sp_6 | exact st_0 (by assumption))) (by exact rfl) ?_
  refine x_putC rfl hn (by with_reducible exact (by first | exact sp_6 | exact st_0 (by assumption))) (by exact rfl) (by first | rfl | exact nr_z (by assumption)) (by first | rfl | exact fi_z _) ?_
  refine x_al rfl rfl ?_
  refine x_al rfl rfl ?_
  refine x_getC rfl hn (by with_reducible exact (by first | exact sp_6 | exact st_0 (by assumption))) (by exact rfl) ?_
  refine x_putC rfl hn (by with_reducible exact (by first | exact sp_6 | exact st_0 (by assumption))) (by exact rfl) (by first | rfl | exact nr_z (by assumption)) (by first | rfl | exact fi_z _) ?_
  refine x_al rfl rfl ?_
  refine x_al rfl rfl ?_
  refine x_getC rfl hn (by with_reducible exact (by first | exact sp_6 | exact st_0 (by assumption))) (by exact rfl) ?_
  refine x_putC rfl hn (by with_reducible exact (by first | exact sp_6 | exact st_0 (by assumption))) (by exact rfl) (by first | rfl | exact nr_z (by assumption)) (by first | rfl | exact fi_z _) ?_
  refine x_al rfl rfl ?_
  refine x_al rfl rfl ?_
  refine x_getC rfl hn (by with_reducible exact (by first | exact sp_6 | exact st_0 (by assumption))) (by exact rfl) ?_
  refine x_putC rfl hn (by with_reducible exact (by first | exact sp_6 | exact st_0 (by assumption))) (by exact rfl) (by first | rfl | exact nr_z (by assumption)) (by first | rfl | exact fi_z _) ?_
  refine x_al rfl rfl ?_
  refine x_al rfl rfl ?_
  refine x_getC rfl hn (by with_reducible exact (by first | exact sp_6 | exact st_0 (by assumption))) (by exact rfl) ?_
  refine x_putC rfl hn (by with_reducible exact (by first | exact sp_6 | exact st_0 (by assumption))) (by exact rfl) (by first | rfl | exact nr_z (by assumption)) (by first | rfl | exact fi_z _) ?_
  refine x_al rfl rfl ?_
  refine x_al rfl rfl ?_
  refine x_getC rfl hn (by with_reducible exact (by first | exact sp_6 | exact st_0 (by assumption))) (by exact rfl) ?_
  refine x_putC rfl hn (by with_reducible exact (by first | exact sp_6 | exact st_0 (by assumption))) (by exact rfl) (by first | rfl | exact nr_z (by assumption)) (by first | rfl | exact fi_z _) ?_
  refine x_al rfl rfl ?_
  refine x_al rfl rfl ?_
  refine x_getC rfl hn (by with_reducible exact (by first | exact sp_6 | exact st_0 (by assumption))) (by exact rfl) ?_
  refine x_putC rfl hn (by with_reducible exact (by first | exact sp_6 | exact st_0 (by assumption))) (by exact rfl) (by first | rfl | exact nr_z (by assumption)) (by first | rfl | exact fi_z _) ?_
  refine x_al rfl rfl ?_
  refine x_al rfl rfl ?_
  refine x_getC rfl hn (by with_reducible exact (by first | exact sp_6 | exact st_0 (by assumption))) (by exact rfl) ?_
  refine x_putC rfl hn (by with_reducible exact (by first | exact sp_6 | exact st_0 (by assumption))) (by exact rfl) (by first | rfl | exact nr_z (by assumption)) (by first | rfl | exact fi_z _) ?_
  refine x_c rfl ?_
  refine x_is (lo' := [_, _, _]) rfl (Nat.le_of_ble_eq_true rfl) rfl ?_
  refine loopP 0 (Nat.zero_le _) _ A (fun r hr => ⟨?_, rfl⟩) (fun k hk => ?_) ?_ (fun x hx => absurd hx (Nat.not_lt_zero _))
  · rw [udA_ne (by omega), udA_ne (by omega), udA_ne (by omega), udA_ne (by omega), udA_ne (by omega), udA_ne (by omega), udA_ne (by omega), udA_ne (by omega)]
  · have hne : p ≠ q := by omega
    simp only [udA_t, udA_udA, udA_ne hne]
    obtain rfl | rfl | rfl | rfl | rfl | rfl | rfl | rfl : k = 0 ∨ k = 1 ∨ k = 2 ∨ k = 3 ∨ k = 4 ∨ k = 5 ∨ k = 6 ∨ k = 7 := by omega
    · rw [upd_ne (by decide), upd_ne (by decide), upd_ne (by decide), upd_ne (by decide), upd_ne (by decide), upd_ne (by decide), upd_ne (by decide), upd_at]
    · rw [upd_ne (by decide), upd_ne (by decide), upd_ne (by decide), upd_ne (by decide), upd_ne (by decide), upd_ne (by decide), upd_at]
    · rw [upd_ne (by decide), upd_ne (by decide), upd_ne (by decide), upd_ne (by decide), upd_ne (by decide), upd_at]
    · rw [upd_ne (by decide), upd_ne (by decide), upd_ne (by decide), upd_ne (by decide), upd_at]
    · rw [upd_ne (by decide), upd_ne (by decide), upd_ne (by decide), upd_at]
    · rw [upd_ne (by decide), upd_ne (by decide), upd_at]
    · rw [upd_ne (by decide), upd_at]
    · rw [upd_at]
  · rw [udA_ne (by omega), udA_ne (by omega), udA_ne (by omega), udA_ne (by omega), udA_ne (by omega), udA_ne (by omega), udA_ne (by omega), udA_ne (by omega)]
    exact hno
end CALLS
