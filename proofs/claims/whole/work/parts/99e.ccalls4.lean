/-! calls of numbers, points, hits; cw_ -/
section K
variable {F A F' A' : Nat → Nat → Int32} {f f' : Nat → Int32} {np nm nc nt ns nh v : Nat}
theorem KI.forget {np' nm' : Nat} (h : KI F A f np nm v) (hv : v + 1 < 2 ^ 30) (hF : F' 1396 11 = nI (v + 1)) (hA : A' 1404 = A 1404) : KI F' A' f' np' nm' (v + 1) := ⟨hF, hv, fun k hk => by
  obtain ⟨e, e1, e2, _⟩ := h.2.2 k hk
  exact ⟨e, by omega, by rw [hA]; exact e2, fun h => by omega⟩⟩
/-- only prints and marks changed -/
theorem RS.pm {np' nm' : Nat} (hR : RS F A f 6 np nm nc nt ns nh) (hI : IV f np nm nc nt ns nh) (hf : ∀ i, (i < 4 ∨ 6606 ≤ i) → f' i = f i) (h4 : F' 6 4 = nI np') (h5 : F' 6 5 = nI nm') (h60 : ∀ k, k ≠ 4 → k ≠ 5 → F' 6 k = F 6 k) (hF : ∀ q, 7 ≤ q → q < 701 → (q < 21 ∨ 561 ≤ q) → F' q = F q) (hA : ∀ q, 6 ≤ q → q < 701 → (q < 21 ∨ 561 ≤ q) → A' q = A q) (hP : ∀ p, p < np' → RsP F' A' f' (21 + 7 * p) p) (hM : ∀ k, k < nm' → RsM F' A' f' (441 + 6 * k) k) : RS F' A' f' 6 np' nm' nc nt ns nh := by
  have h16 := hI.c16; have h10 := hI.t10; have h200 := hI.s200; have hh200 := hI.h200
  obtain ⟨r0, r1, r2, r3, r4, r5, r6, r7⟩ := hR.1
  refine ⟨⟨?_, ?_, ?_, ?_, h4, h5, ?_, ?_⟩, hP, hM, fun c hc => ?_, fun t ht => ?_, ?_, ?_, ?_⟩
  · rw [h60 0 (by decide) (by decide), hf 0 (by omega)]; exact r0
  · rw [h60 1 (by decide) (by decide), hf 1 (by omega)]; exact r1
  · rw [h60 2 (by decide) (by decide), hf 2 (by omega)]; exact r2
  · rw [h60 3 (by decide) (by decide), hf 3 (by omega)]; exact r3
  · rw [h60 6 (by decide) (by decide)]; exact r6
  · rw [h60 7 (by decide) (by decide)]; exact r7
  · exact ((hR.ca hc).keep (fun r h1 h2 => ⟨hF r (by omega) (by omega) (by omega), hA r (by omega) (by omega) (by omega)⟩)).cong (fun i h1 h2 => hf i (by omega)) (fun k j h1 h2 => by rw [hf _ (by omega)])
  · obtain ⟨r, hr⟩ := hR.tx ht
    exact ⟨r, TxS_c (fun i hi => hf i (by omega)) (hr.keep (fun r h1 h2 => ⟨hF r (by omega) (by omega) (by omega), hA r (by omega) (by omega) (by omega)⟩))⟩
  · show F' 11 1 = 0
    rw [hF 11 (by omega) (by omega) (by omega)]; exact hR.no
  · exact (hR.sa.keep (hF 17 (by omega) (by omega) (by omega)) (hA 18 (by omega) (by omega) (by omega))).cong (fun i h1 h2 => hf i (by omega))
  · exact (hR.hi.keep (hF 19 (by omega) (by omega) (by omega)) (hA 20 (by omega) (by omega) (by omega))).cong (fun i h1 h2 => hf i (by omega))
theorem IV.pm {np' nm' : Nat} (hI : IV f np nm nc nt ns nh) (hf : ∀ i, (i < 4 ∨ 6606 ≤ i) → f' i = f i) (h4 : f' 4 = nI np' ∧ np' ≤ 60) (h5 : f' 5825 = nI nm' ∧ nm' ≤ 20) (hp : np ≤ np') (hm : nm ≤ nm') (hW : WP f') (hP : (∀ p, p < np' → CeR f' p) ∧ ∀ p, np' ≤ p → p < 60 → f' (5 + 97 * p + 64) = 0) (hM : (∀ k, k < nm' → (∃ v, v ≤ 2000 ∧ f' (5826 + 39 * k) = nI v) ∧ ∃ b, f' (5826 + 39 * k + 5) = bI b) ∧ ∀ k, nm' ≤ k → k < 20 → f' (5826 + 39 * k + 6) = 0) : IV f' np' nm' nc nt ns nh := by
  have h16 := hI.c16; have h10 := hI.t10; have h200 := hI.s200; have hh200 := hI.h200
  obtain ⟨⟨c1, c2, c3, c4, c5, c6⟩, ⟨n1, n2⟩, _, _, _, ⟨hc1, hc2⟩, ht, hs⟩ := hI
  refine ⟨⟨h4, h5, ?_, ?_, ?_, ?_⟩, ⟨?_, ?_⟩, hW, hP, hM, ⟨fun c hc => ?_, fun k c j h1 h2 h3 h4 => ?_⟩, fun t htn => ?_, fun r hr => ?_⟩
  · rw [hf 6606 (by omega)]; exact c3
  · rw [hf 12825 (by omega)]; exact c4
  · rw [hf 10223 (by omega)]; exact c5
  · rw [hf 11424 (by omega)]; exact c6
  · rw [hf 0 (by omega)]; exact n1
  · rw [hf 2 (by omega)]; exact n2
  · obtain ⟨a1, a2, a3, a4, a5⟩ := hc1 c hc
    refine ⟨by rw [hf _ (by omega)]; exact a1, by rw [hf _ (by omega)]; exact a2, fun t ht => by rw [hf _ (by omega)]; exact a3 t ht, fun j hj => ?_, ?_⟩
    · rw [hf _ (by omega), hf _ (by omega)]
      obtain ⟨h1, h2⟩ := a4 j hj
      refine ⟨?_, h2⟩
      rcases h1 with h | ⟨p, hp2, e⟩
      · exact Or.inl h
      · exact Or.inr ⟨p, by omega, e⟩
    · rw [cn_c (P' := fun j => decide (0 ≤ f (6607 + 26 * c + (16 + j)))) 10 (fun j hj => by rw [hf _ (by omega)])]
      exact a5
  · rw [hf _ (by omega)]; exact hc2 k c j h1 h2 h3 h4
  · rw [hf _ (by omega)]; exact ht t htn
  · have := hs r hr
    unfold SaI at this ⊢
    rw [hf (10224 + 6 * r) (by omega), hf (10224 + 6 * r + 1) (by omega), hf (10224 + 6 * r + 2) (by omega), hf (10224 + 6 * r + 3) (by omega), hf (10224 + 6 * r + 4) (by omega), hf (10224 + 6 * r + 5) (by omega)]
    obtain ⟨a1, ⟨k, hk, ek⟩, a3⟩ := this
    exact ⟨a1, ⟨k, by omega, ek⟩, a3⟩
end K
section CALLS
variable {g : aG} {d : Nat} {w : aW} {F A : Nat → Nat → Int32} {L : Nat → Int64} {f : Nat → Int32} {np nm nc nt ns nh v : Nat}
theorem ca_st {v1 r : Option Value} {thr : Int32} {F' A' : Nat → Nat → Int32} {L' : Nat → Int64} {f1 : Nat → Int32} {np' nm' nc' nt' ns' nh' v' : Nat} (hR : RS F' A' f1 6 np' nm' nc' nt' ns' nh') (hI : IV f1 np' nm' nc' nt' ns' nh') (hK : KI F' A' f1 np' nm' v') (hv : v' ≤ v + 1) (hs : ∀ q, (q < 6 ∨ (701 ≤ q ∧ q < 1396) ∨ q = 1409) → F' q = F q ∧ A' q = A q) (hr : v1 = r) (ht : thr = 0) : caQ w F A f1 v thr r v1 (cW w F' A' L') := ⟨ht, hr, F', A', L', np', nm', nc', nt', ns', nh', v', rfl, hv, hR, hI, hK, hs⟩
theorem ge_no2 {x k : Int32} {n : Nat} (hk : k.toInt + 1 = n) (hl : n < 2 ^ 31) (c : ¬ x ≤ k) : okN x n = false := c_noN2 (by
  have h2 := Int32.not_le.mp c
  rw [Int32.lt_iff_toInt_lt] at h2
  rw [Int32.le_iff_toInt_le, show (nI n).toInt = n from Int32.toInt_ofNat_of_lt hl]
  omega)
theorem ge_ok2 {x k : Int32} {n : Nat} (hk : k.toInt + 1 = n) (hl : n < 2 ^ 31) (c1 : ¬ x < 0) (c : x ≤ k) : okN x n = true := c_okN hl c1 (by
  intro h2
  rw [Int32.le_iff_toInt_le] at c h2
  rw [show (nI n).toInt = n from Int32.toInt_ofNat_of_lt hl] at h2
  omega)
theorem c_slack {x : Int32} (hK : KI F A f np nm v) (hR : RS F A f 6 np nm nc nt ns nh) (hI : IV f np nm nc nt ns nh) (hv : v + 1 < 2 ^ 30) (hn : w.1 = N0) : Ev g (d + 2) 121 [.ref 0, .int x] (cW w F A L) (caQ w F A (if okN x 9 = true then upd f 1 x else f) v (if okN x 9 = true then 0 else 1) (none)) (caX (cW w F A L) (if okN x 9 = true then 0 else 1) 0 0) := by
  have h60 := hI.p60
  have h20 := hI.m20
  have h16 := hI.c16
  have h10 := hI.t10
  have h200 := hI.s200
  have hh200 := hI.h200
  have no : okN x 9 = false → EX g mbOf (Ev g (d + 1)) (infoOf 121) k_X10_slack (caQ w F A (if okN x 9 = true then upd f 1 x else f) v (if okN x 9 = true then 0 else 1) (none)) (caX (cW w F A L) (if okN x 9 = true then 0 else 1) 0 0) w.1 (cW w F A L) 0 0 5 [some (.ref 0), some (.int x)] [] := by
    intro h
    refine x_thr rfl hn rfl (Nat.le_of_ble_eq_true rfl) (Nat.le_of_ble_eq_true rfl) (Nat.le_of_ble_eq_true rfl) ?_
    exact ⟨rfl, Or.inl ⟨if_neg (fne h), rfl⟩⟩
  refine ev_X10_slack ?_ (Nat.le_of_ble_eq_true rfl)
  refine x_lo (lo' := [some (.ref 0), some (.int x)]) rfl ?_
  refine x_il rfl rfl ?_
  refine x_iflt rfl (fun c1 => ?_) (fun c1 => ?_)
  · skip
    exact no (c_noN1 c1)
  refine x_il rfl rfl ?_
  refine x_c rfl ?_
  refine x_icle rfl (fun c2 => ?_) (fun c2 => ?_)
  rotate_left
  · skip
    exact no (ge_no2 (n := 9) rfl (by decide) c2)
  have h1 : okN x 9 = true := ge_ok2 (n := 9) rfl (by decide) c1 c2
  refine x_al rfl rfl ?_
  refine x_getC rfl hn (by with_reducible exact sp_0) (by exact rfl) ?_
  refine x_il rfl rfl ?_
  refine x_putC rfl hn (by with_reducible exact (by first | exact sp_6 | exact st_0 (by assumption))) (by exact rfl) (by first | rfl | exact nr_z (by assumption)) rfl ?_
  refine x_al rfl rfl ?_
  refine x_getC rfl hn (by with_reducible exact sp_0) (by exact rfl) ?_
  refine x_call1 (c_forget (v := v) (by rw [udA_ne (by decide)]; exact hK.1) hn) rfl (Nat.le_of_ble_eq_true rfl) (Or.inl (by first | exact hn | assumption)) (rcv_at (cw_fs (by with_reducible exact sp_1396) hn) (by decide) (by decide)) (Nat.le_of_ble_eq_true rfl) (Nat.le_of_ble_eq_true rfl) (fun E w9 hq => hq.elim) ?_
  rintro v9 w9 ⟨rfl, rfl⟩
  refine x_retv rfl (Nat.le_of_ble_eq_true rfl) (Nat.le_of_ble_eq_true rfl) rfl ?_
  rw [if_pos h1]
  have hI1 : IV (upd f 1 x) np nm nc nt ns nh := hI.low (fun i hi => upd_ne (by omega)) (by rw [upd_ne (by decide)]; exact hI.2.1.1) (by rw [upd_ne (by decide)]; exact hI.2.1.2)
  have hR1 := (hR.num (i := 1) (x := x) hI (by decide)).keep hI1 (F' := udA (udA F 6 (upd (F 6) 1 x)) 1396 (upd (udA F 6 (upd (F 6) 1 x) 1396) 11 (nI (v + 1)))) (A' := A) (fun q h1 h2 => ⟨udA_ne (by omega), rfl⟩)
  exact ca_st hR1 hI1 (hK.forget hv (by rw [udA_t, upd_at]) rfl) (Nat.le_refl _) (fun q hq => ⟨by rw [udA_ne (by omega), udA_ne (by omega)], rfl⟩) rfl (if_pos h1)
theorem c_desk {x : Int32} (hK : KI F A f np nm v) (hR : RS F A f 6 np nm nc nt ns nh) (hI : IV f np nm nc nt ns nh) (hn : w.1 = N0) : Ev g (d + 2) 151 [.ref 0, .int x] (cW w F A L) (caQ w F A (if okN x 61 = true then upd f 2 x else f) v (if okN x 61 = true then 0 else 1) (none)) (caX (cW w F A L) (if okN x 61 = true then 0 else 1) 0 0) := by
  have h60 := hI.p60
  have h20 := hI.m20
  have h16 := hI.c16
  have h10 := hI.t10
  have h200 := hI.s200
  have hh200 := hI.h200
  have no : okN x 61 = false → EX g mbOf (Ev g (d + 1)) (infoOf 151) k_X10_desk (caQ w F A (if okN x 61 = true then upd f 2 x else f) v (if okN x 61 = true then 0 else 1) (none)) (caX (cW w F A L) (if okN x 61 = true then 0 else 1) 0 0) w.1 (cW w F A L) 0 0 5 [some (.ref 0), some (.int x)] [] := by
    intro h
    refine x_thr rfl hn rfl (Nat.le_of_ble_eq_true rfl) (Nat.le_of_ble_eq_true rfl) (Nat.le_of_ble_eq_true rfl) ?_
    exact ⟨rfl, Or.inl ⟨if_neg (fne h), rfl⟩⟩
  refine ev_X10_desk ?_ (Nat.le_of_ble_eq_true rfl)
  refine x_lo (lo' := [some (.ref 0), some (.int x)]) rfl ?_
  refine x_il rfl rfl ?_
  refine x_iflt rfl (fun c1 => ?_) (fun c1 => ?_)
  · skip
    exact no (c_noN1 c1)
  refine x_il rfl rfl ?_
  refine x_c rfl ?_
  refine x_icle rfl (fun c2 => ?_) (fun c2 => ?_)
  rotate_left
  · skip
    exact no (ge_no2 (n := 61) rfl (by decide) c2)
  have h1 : okN x 61 = true := ge_ok2 (n := 61) rfl (by decide) c1 c2
  obtain ⟨y, hy, rfl, ey⟩ := ok_of h1 (by omega)
  refine x_al rfl rfl ?_
  refine x_getC rfl hn (by with_reducible exact sp_0) (by exact rfl) ?_
  refine x_il rfl rfl ?_
  refine x_putC rfl hn (by with_reducible exact (by first | exact sp_6 | exact st_0 (by assumption))) (by exact rfl) (by first | rfl | exact nr_z (by assumption)) rfl ?_
  refine x_retv rfl (Nat.le_of_ble_eq_true rfl) (Nat.le_of_ble_eq_true rfl) rfl ?_
  rw [if_pos h1]
  have hI1 : IV (upd f 2 (nI y)) np nm nc nt ns nh := hI.low (fun i hi => upd_ne (by omega)) (by rw [upd_ne (by decide)]; exact hI.2.1.1) ⟨y, by omega, upd_at⟩
  exact ca_st (hR.num (i := 2) hI (by decide)) hI1 ((hK.cong ⟨upd_ne (by decide), fun p hp i h1 h2 => upd_ne (by omega), fun k hk i h1 h2 => upd_ne (by omega)⟩ hI.wp h60 h20 (Nat.le_refl _) (Nat.le_refl _)).keepC rfl rfl) (Nat.le_succ _) (fun q hq => ⟨udA_ne (by omega), rfl⟩) rfl (if_pos h1)
theorem c_doubtful {q : Nat} (hq : CaAt q) (hn : w.1 = N0) : Ev g (d + 1) 2 [.ref q] (cW w F A L) (RetQ (nI (cn (fun j => decide (¬ A (q + 2) j = -1)) 10)) (cW w F A L)) noX := by
  have loop : ∀ j, j ≤ 10 → EX g mbOf (Ev g (d)) (infoOf 2) k_X0_doubtful (RetQ (nI (cn (fun j => decide (¬ A (q + 2) j = -1)) 10)) (cW w F A L)) noX w.1 (cW w F A L) 0 0 4 [some (.ref q), some (.int (nI (cn (fun j => decide (¬ A (q + 2) j = -1)) j))), some (.int (nI j))] [] := by
    refine downN 10 fun j hj ih => ?_
    refine x_il rfl rfl ?_
    refine x_c rfl ?_
    refine x_icgeN (y := 10) rfl (by omega) (fun c => ?_) (fun c => ?_)
    · refine x_il rfl rfl ?_
      refine x_reti rfl (Nat.le_of_ble_eq_true rfl) (Nat.le_of_ble_eq_true rfl) rfl ?_
      obtain rfl : j = 10 := by omega
      exact ⟨rfl, rfl⟩
    refine x_il rfl rfl ?_
    refine x_al rfl rfl ?_
    refine x_getC rfl hn (by with_reducible exact ca_0 (by first | assumption | exact caA (by omega) | exact caB (by assumption) (by omega))) (by exact rfl) ?_
    refine x_il rfl rfl ?_
    refine x_iaC rfl hn (by with_reducible exact ca_2 (by first | assumption | exact caA (by omega) | exact caB (by assumption) (by omega))) (by omega) ?_
    refine x_c rfl ?_
    have ih := ih c
    refine x_icne rfl (fun c1 => ?_) (fun c1 => ?_)
    · refine x_c rfl ?_
      refine x_addN (y := 1) rfl ?_
      refine x_is (lo' := [_, _, _]) rfl (Nat.le_of_ble_eq_true rfl) rfl ?_
      refine x_inc1 (lo' := [_, _, _]) rfl rfl rfl ?_
      refine x_go rfl ?_
      rw [cn_t (r := j) (by rw [decide_eq_true_iff]; exact c1)] at ih
      exact ih
    refine x_c rfl ?_
    refine x_go rfl ?_
    refine x_addN (y := 0) rfl ?_
    refine x_is (lo' := [_, _, _]) rfl (Nat.le_of_ble_eq_true rfl) rfl ?_
    refine x_inc1 (lo' := [_, _, _]) rfl rfl rfl ?_
    refine x_go rfl ?_
    rw [cn_f (r := j) (by rw [decide_eq_true_iff]; exact fun h => h c1)] at ih
    exact ih
  refine ev_X0_doubtful ?_ (Nat.le_of_ble_eq_true rfl)
  refine x_lo (lo' := [some (.ref q), none, none]) rfl ?_
  refine x_c rfl ?_
  refine x_is (lo' := [_, _, _]) rfl (Nat.le_of_ble_eq_true rfl) rfl ?_
  refine x_c rfl ?_
  refine x_is (lo' := [_, _, _]) rfl (Nat.le_of_ble_eq_true rfl) rfl ?_
  exact loop 0 (by decide)
theorem c_withPrints {q : Nat} (hq : CaAt q) (hn : w.1 = N0) : Ev g (d + 1) 3 [.ref q] (cW w F A L) (RetQ (nI (cn (fun j => decide (¬ A (q + 1) j = -1)) 10)) (cW w F A L)) noX := by
  have loop : ∀ j, j ≤ 10 → EX g mbOf (Ev g (d)) (infoOf 3) k_X0_withPrints (RetQ (nI (cn (fun j => decide (¬ A (q + 1) j = -1)) 10)) (cW w F A L)) noX w.1 (cW w F A L) 0 0 4 [some (.ref q), some (.int (nI (cn (fun j => decide (¬ A (q + 1) j = -1)) j))), some (.int (nI j))] [] := by
    refine downN 10 fun j hj ih => ?_
    refine x_il rfl rfl ?_
    refine x_c rfl ?_
    refine x_icgeN (y := 10) rfl (by omega) (fun c => ?_) (fun c => ?_)
    · refine x_il rfl rfl ?_
      refine x_reti rfl (Nat.le_of_ble_eq_true rfl) (Nat.le_of_ble_eq_true rfl) rfl ?_
      obtain rfl : j = 10 := by omega
      exact ⟨rfl, rfl⟩
    refine x_il rfl rfl ?_
    refine x_al rfl rfl ?_
    refine x_getC rfl hn (by with_reducible exact ca_0 (by first | assumption | exact caA (by omega) | exact caB (by assumption) (by omega))) (by exact rfl) ?_
    refine x_il rfl rfl ?_
    refine x_iaC rfl hn (by with_reducible exact ca_1 (by first | assumption | exact caA (by omega) | exact caB (by assumption) (by omega))) (by omega) ?_
    refine x_c rfl ?_
    have ih := ih c
    refine x_icne rfl (fun c1 => ?_) (fun c1 => ?_)
    · refine x_c rfl ?_
      refine x_addN (y := 1) rfl ?_
      refine x_is (lo' := [_, _, _]) rfl (Nat.le_of_ble_eq_true rfl) rfl ?_
      refine x_inc1 (lo' := [_, _, _]) rfl rfl rfl ?_
      refine x_go rfl ?_
      rw [cn_t (r := j) (by rw [decide_eq_true_iff]; exact c1)] at ih
      exact ih
    refine x_c rfl ?_
    refine x_go rfl ?_
    refine x_addN (y := 0) rfl ?_
    refine x_is (lo' := [_, _, _]) rfl (Nat.le_of_ble_eq_true rfl) rfl ?_
    refine x_inc1 (lo' := [_, _, _]) rfl rfl rfl ?_
    refine x_go rfl ?_
    rw [cn_f (r := j) (by rw [decide_eq_true_iff]; exact fun h => h c1)] at ih
    exact ih
  refine ev_X0_withPrints ?_ (Nat.le_of_ble_eq_true rfl)
  refine x_lo (lo' := [some (.ref q), none, none]) rfl ?_
  refine x_c rfl ?_
  refine x_is (lo' := [_, _, _]) rfl (Nat.le_of_ble_eq_true rfl) rfl ?_
  refine x_c rfl ?_
  refine x_is (lo' := [_, _, _]) rfl (Nat.le_of_ble_eq_true rfl) rfl ?_
  exact loop 0 (by decide)
theorem cntT_cn {num : Nat → Int32} {wd c : Nat} {x : Int32} {P : Nat → Bool} : ∀ n, (∀ r, r < n → (P r = true ↔ num (r * wd + c) = x)) → cntT num wd c x n = cn P n := by
  intro n
  induction n with
  | zero => intro _; rfl
  | succ n ih =>
    intro h
    unfold cntT
    show _ = cn P n + (if P n = true then 1 else 0)
    rw [ih (fun r hr => h r (by omega))]
    have hx := h n (by omega)
    by_cases e : num (n * wd + c) = x
    · rw [if_pos e, if_pos (hx.mpr e)]
    · rw [if_neg e, if_neg (fun h => e (hx.mp h))]
theorem c_look {x y : Int32} (hK : KI F A f np nm v) (hR : RS F A f 6 np nm nc nt ns nh) (hI : IV f np nm nc nt ns nh) (hn : w.1 = N0) : Ev g (d + 5) 158 [.ref 0, .int x, .int y] (cW w F A L) (caQ w F A (f) v (if okN x nc = true then (if okN y 6 = true then 0 else 2) else 1) (some (.int (if okN x nc = true ∧ okN y 6 = true then lookF f nh (cN x) (cN y) else 0)))) (caX (cW w F A L) (if okN x nc = true then (if okN y 6 = true then 0 else 2) else 1) 2 3) := by
  have h60 := hI.p60
  have h20 := hI.m20
  have h16 := hI.c16
  have h10 := hI.t10
  have h200 := hI.s200
  have hh200 := hI.h200
  refine ev_X10_look ?_ (Nat.le_of_ble_eq_true rfl)
  refine x_lo (lo' := [some (.ref 0), some (.int x), some (.int y), none]) rfl ?_
  refine x_al rfl rfl ?_
  refine x_il rfl rfl ?_
  refine x_call2 (c_needCard hR.1.2.2.2.2.2.2.1 (by omega) hn) rfl (Nat.le_of_ble_eq_true rfl) (Or.inl (by first | exact hn | assumption)) (rcv_at (cw_fs (by with_reducible exact sp_0) hn) (by decide) (by decide)) (Nat.le_of_ble_eq_true rfl) (Nat.le_of_ble_eq_true rfl) (fun E w9 hq => ⟨rfl, by obtain ⟨h9, rfl, rfl⟩ := hq; exact ⟨rfl, Or.inl ⟨if_neg (fun h8 => fne h9 h8), rfl⟩⟩⟩) ?_
  rintro v9 w9 ⟨h1, rfl, rfl⟩
  refine x_il rfl rfl ?_
  have no : okN y 6 = false → EX g mbOf (Ev g (d + 4)) (infoOf 158) k_X10_look (caQ w F A (f) v (if okN x nc = true then (if okN y 6 = true then 0 else 2) else 1) (some (.int (if okN x nc = true ∧ okN y 6 = true then lookF f nh (cN x) (cN y) else 0)))) (caX (cW w F A L) (if okN x nc = true then (if okN y 6 = true then 0 else 2) else 1) 2 3) w.1 (cW w F A L) 1 6 8 [some (.ref 0), some (.int x), some (.int y), none] [] := by
    intro h
    refine x_thr rfl hn rfl (Nat.le_of_ble_eq_true rfl) (Nat.le_of_ble_eq_true rfl) (Nat.le_of_ble_eq_true rfl) ?_
    exact ⟨rfl, Or.inr ⟨by rw [if_pos h1, if_neg (fne h)], rfl⟩⟩
  refine x_iflt rfl (fun c1 => ?_) (fun c1 => ?_)
  · skip
    exact no (c_noN1 c1)
  refine x_il rfl rfl ?_
  refine x_c rfl ?_
  refine x_iclt rfl (fun c2 => ?_) (fun c2 => ?_)
  rotate_left
  · skip
    exact no (ge_no (n := 6) (by decide) c2)
  have h2 : okN y 6 = true := c_okN (n := 6) (by decide) c1 (Int32.not_le.mpr c2)
  rw [if_pos h1, if_pos h2, if_pos ⟨h1, h2⟩]
  obtain ⟨c, hc, rfl, ec⟩ := ok_of h1 (by omega)
  obtain ⟨y, hy, rfl, ey⟩ := ok_of h2 (by omega)
  rw [ec, ey]
  have hC := hR.ca hc
  have hca := hI.ca hc
  have fin : ∀ r : Int32, r = lookF f nh c y → caQ w F A f v 0 (some (.int (lookF f nh c y))) (some (.int r)) (cW w F A L) := fun r hr => ca_ro hK hR hI (by rw [hr]) rfl
  refine x_al rfl rfl ?_
  refine x_getC rfl hn (by with_reducible exact sp_0) (by exact rfl) ?_
  refine x_getC rfl hn (by with_reducible exact (by first | exact sp_6 | exact st_0 (by assumption))) (by exact rfl) ?_
  refine x_il rfl rfl ?_
  refine x_aaC rfl hn (by with_reducible exact sp_9) (by decide) (by omega) ?_
  refine x_as (lo' := [_, _, _, _]) rfl (Nat.le_of_ble_eq_true rfl) rfl ?_
  refine x_il rfl rfl ?_
  match y, hy with
  | 0, _ =>
    refine x_swJ 0 rfl (by decide) rfl ?_
    refine x_al rfl rfl ?_
    refine x_getC rfl hn (by with_reducible exact ca_0 (by first | assumption | exact caA (by omega) | exact caB (by assumption) (by omega))) (by exact rfl) ?_
    refine x_reti rfl (Nat.le_of_ble_eq_true rfl) (Nat.le_of_ble_eq_true rfl) rfl ?_
    exact fin _ hC.1.1
  | 1, _ =>
    refine x_swJ 1 rfl (by decide) rfl ?_
    refine x_al rfl rfl ?_
    refine x_getC rfl hn (by with_reducible exact ca_0 (by first | assumption | exact caA (by omega) | exact caB (by assumption) (by omega))) (by exact rfl) ?_
    refine x_reti rfl (Nat.le_of_ble_eq_true rfl) (Nat.le_of_ble_eq_true rfl) rfl ?_
    exact fin _ hC.1.2.1
  | 2, _ =>
    refine x_swJ 2 rfl (by decide) rfl ?_
    refine x_al rfl rfl ?_
    refine x_getC rfl hn (by with_reducible exact ca_0 (by first | assumption | exact caA (by omega) | exact caB (by assumption) (by omega))) (by exact rfl) ?_
    refine x_reti rfl (Nat.le_of_ble_eq_true rfl) (Nat.le_of_ble_eq_true rfl) rfl ?_
    exact fin _ hC.1.2.2
  | 3, _ =>
    refine x_swJ 3 rfl (by decide) rfl ?_
    refine x_al rfl rfl ?_
    refine x_call1 (c_withPrints (caA (by omega)) hn) rfl (Nat.le_of_ble_eq_true rfl) (Or.inl (by first | exact hn | assumption)) (rcv_at (cw_fs (by with_reducible exact ca_0 (by first | assumption | exact caA (by omega) | exact caB (by assumption) (by omega))) hn) (by decide) (by decide)) (Nat.le_of_ble_eq_true rfl) (Nat.le_of_ble_eq_true rfl) (fun E w9 hq => hq.elim) ?_
    rintro v9 w9 ⟨rfl, rfl⟩
    refine x_reti rfl (Nat.le_of_ble_eq_true rfl) (Nat.le_of_ble_eq_true rfl) rfl ?_
    refine fin _ (congrArg nI (cn_c 10 (fun j hj => dec_congr ?_)))
    have hN := FN.neg (by omega) (hca.2.2.2.1 j hj).1
    rw [(hC.2.1 j hj).1]
    exact ⟨fun h => Int32.not_lt.mp (fun h2 => h (hN.mpr h2)), fun h h2 => absurd (hN.mp h2) (Int32.not_lt.mpr h)⟩
  | 4, _ =>
    refine x_swJ 4 rfl (by decide) rfl ?_
    refine x_al rfl rfl ?_
    refine x_call1 (c_doubtful (caA (by omega)) hn) rfl (Nat.le_of_ble_eq_true rfl) (Or.inl (by first | exact hn | assumption)) (rcv_at (cw_fs (by with_reducible exact ca_0 (by first | assumption | exact caA (by omega) | exact caB (by assumption) (by omega))) hn) (by decide) (by decide)) (Nat.le_of_ble_eq_true rfl) (Nat.le_of_ble_eq_true rfl) (fun E w9 hq => hq.elim) ?_
    rintro v9 w9 ⟨rfl, rfl⟩
    refine x_reti rfl (Nat.le_of_ble_eq_true rfl) (Nat.le_of_ble_eq_true rfl) rfl ?_
    refine fin _ (congrArg nI (cn_c 10 (fun j hj => dec_congr ?_)))
    have hN := FN.neg (n := 8) (by omega) (hca.2.2.2.1 j hj).2
    rw [(hC.2.1 j hj).2.1]
    exact ⟨fun h => Int32.not_lt.mp (fun h2 => h (hN.mpr h2)), fun h h2 => absurd (hN.mp h2) (Int32.not_lt.mpr h)⟩
  | 5, _ =>
    refine x_swD rfl (by decide) ?_
    refine x_al rfl rfl ?_
    refine x_getC rfl hn (by with_reducible exact sp_0) (by exact rfl) ?_
    refine x_getC rfl hn (by with_reducible exact (by first | exact sp_6 | exact st_0 (by assumption))) (by exact rfl) ?_
    refine x_c rfl ?_
    refine x_il rfl rfl ?_
    refine x_call3 (m_countOf (c := 1) (cw_tab (w := w) (A := A) (L := L) tbH hR.hi.1 hh200 (by decide) (by decide) hn) (by decide) hn) rfl (Nat.le_of_ble_eq_true rfl) (Or.inl (by first | exact hn | assumption)) (rcv_at (cw_fs (by with_reducible exact tb_0 (by first | assumption | exact tbS | exact tbH)) hn) (by decide) (by decide)) (Nat.le_of_ble_eq_true rfl) (Nat.le_of_ble_eq_true rfl) (fun E w9 hq => hq.elim) ?_
    rintro v9 w9 ⟨rfl, rfl⟩
    refine x_reti rfl (Nat.le_of_ble_eq_true rfl) (Nat.le_of_ble_eq_true rfl) rfl ?_
    refine fin _ ?_
    show _ = nI (cn (fun k => decide (f (11425 + 7 * k + 1) = nI c)) nh)
    rw [cntT_cn (P := fun k => decide (f (11425 + 7 * k + 1) = nI c)) nh (fun r hr => by rw [decide_eq_true_iff, show A (19 + 1) (r * 7 + 1) = f (11425 + 7 * r + 1) from hR.hi.2 r hr 1 (by decide)])]
end CALLS
