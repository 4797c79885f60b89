/-! say, tear, check, count; cw_ -/
section K
variable {F A F' A' : Nat → Nat → Int32} {f f' : Nat → Int32} {np nm nc nt ns nh v : Nat}
/-- a saying written down -/
def sayR (A : Nat → Nat → Int32) (s : Nat) (e k c j x t : Int32) : Nat → Int32 := upd (upd (upd (upd (upd (upd (A 18) (s * 6 + 0) e) (s * 6 + 1) k) (s * 6 + 2) c) (s * 6 + 3) j) (s * 6 + 4) x) (s * 6 + 5) t
theorem sayR_tab {s : Nat} {e k c j x : Int32} (hT : RsTab F A 17 6 10224 f s) : RsTab (udA F 17 (upd (F 17) 3 (nI (s + 1)))) (udA A 18 (sayR A s e k c j x (f 0))) 17 6 10224 (sayW f s e k c j x) (s + 1) := by
  refine ⟨rfl, fun r hr i hi => ?_⟩
  show sayR A s e k c j x (f 0) (r * 6 + i) = _
  unfold sayR sayW
  by_cases h : r = s
  · subst h
    obtain rfl | rfl | rfl | rfl | rfl | rfl : i = 0 ∨ i = 1 ∨ i = 2 ∨ i = 3 ∨ i = 4 ∨ i = 5 := by omega
    · rw [upd_ne (by omega), upd_ne (by omega), upd_ne (by omega), upd_ne (by omega), upd_ne (by omega), upd_at, upd_ne (by omega), upd_ne (by omega), upd_ne (by omega), upd_ne (by omega), upd_ne (by omega), upd_ne (by omega), Nat.add_zero, upd_at]
    · rw [upd_ne (by omega), upd_ne (by omega), upd_ne (by omega), upd_ne (by omega), upd_at, upd_ne (by omega), upd_ne (by omega), upd_ne (by omega), upd_ne (by omega), upd_ne (by omega), upd_at]
    · rw [upd_ne (by omega), upd_ne (by omega), upd_ne (by omega), upd_at, upd_ne (by omega), upd_ne (by omega), upd_ne (by omega), upd_ne (by omega), upd_at]
    · rw [upd_ne (by omega), upd_ne (by omega), upd_at, upd_ne (by omega), upd_ne (by omega), upd_ne (by omega), upd_at]
    · rw [upd_ne (by omega), upd_at, upd_ne (by omega), upd_ne (by omega), upd_at]
    · rw [upd_at, upd_ne (by omega), upd_at]
  · have h1 := hT.2 r (by omega) i hi
    rw [upd_ne (by omega), upd_ne (by omega), upd_ne (by omega), upd_ne (by omega), upd_ne (by omega), upd_ne (by omega), upd_ne (by omega), upd_ne (by omega), upd_ne (by omega), upd_ne (by omega), upd_ne (by omega), upd_ne (by omega), upd_ne (by omega)]
    exact h1
theorem sayW_o {s i : Nat} {e k c j x : Int32} (h1 : i ≠ 10223) (h2 : i < 10224 + 6 * s ∨ 10224 + 6 * s + 6 ≤ i) : sayW f s e k c j x i = f i := by
  unfold sayW
  rw [upd_ne (by omega), upd_ne (by omega), upd_ne (by omega), upd_ne (by omega), upd_ne (by omega), upd_ne (by omega), upd_ne (by omega)]
end K
section CALLS
variable {g : aG} {d : Nat} {w : aW} {F A : Nat → Nat → Int32} {L : Nat → Int64} {f : Nat → Int32} {np nm nc nt ns nh v : Nat}
theorem c_say {e k c j x : Int32} (hK : KI F A f np nm v) (hR : RS F A f 6 np nm nc nt ns nh) (hI : IV f np nm nc nt ns nh) (hn : w.1 = N0) : Ev g (d + 5) 136 [.ref 0, .int e, .int k, .int c, .int j, .int x] (cW w F A L) (caQ w F A (if syP e k c j nm nc ∧ okN x 3 = true ∧ ¬ ns = 200 ∧ 0 ≤ f (6607 + 26 * cN c + (6 + cN j)) then sayW f ns e k c j x else f) v (if syP e k c j nm nc then (if okN x 3 = true then 0 else 2) else 1) (some (.int (if syP e k c j nm nc ∧ okN x 3 = true then (if ¬ ns = 200 ∧ 0 ≤ f (6607 + 26 * cN c + (6 + cN j)) then nI (ns + 1) else -1) else 0)))) (caX (cW w F A L) (if syP e k c j nm nc then (if okN x 3 = true then 0 else 2) else 1) 2 0) := by
  have h60 := hI.p60
  have h20 := hI.m20
  have h16 := hI.c16
  have h10 := hI.t10
  have h200 := hI.s200
  have hh200 := hI.h200
  refine ev_X10_say ?_ (Nat.le_of_ble_eq_true rfl)
  refine x_lo (lo' := [some (.ref 0), some (.int e), some (.int k), some (.int c), some (.int j), some (.int x), none, none]) rfl ?_
  refine x_al rfl rfl ?_
  refine x_il rfl rfl ?_
  refine x_il rfl rfl ?_
  refine x_il rfl rfl ?_
  refine x_il rfl rfl ?_
  refine x_call5 (c_needSaying hK hR hI hn) rfl (Nat.le_of_ble_eq_true rfl) (Or.inl (by first | exact hn | assumption)) (rcv_at (cw_fs (by with_reducible exact sp_0) hn) (by decide) (by decide)) (Nat.le_of_ble_eq_true rfl) (Nat.le_of_ble_eq_true rfl) (fun E w9 hq => ⟨rfl, by obtain ⟨h9, rfl, rfl⟩ := hq; exact ⟨rfl, Or.inl ⟨if_neg h9, rfl⟩⟩⟩) ?_
  rintro v9 w9 ⟨h1, rfl, rfl⟩
  refine x_il rfl rfl ?_
  have no : okN x 3 = false → EX g mbOf (Ev g (d + 4)) (infoOf 136) k_X10_say (caQ w F A (if syP e k c j nm nc ∧ okN x 3 = true ∧ ¬ ns = 200 ∧ 0 ≤ f (6607 + 26 * cN c + (6 + cN j)) then sayW f ns e k c j x else f) v (if syP e k c j nm nc then (if okN x 3 = true then 0 else 2) else 1) (some (.int (if syP e k c j nm nc ∧ okN x 3 = true then (if ¬ ns = 200 ∧ 0 ≤ f (6607 + 26 * cN c + (6 + cN j)) then nI (ns + 1) else -1) else 0)))) (caX (cW w F A L) (if syP e k c j nm nc then (if okN x 3 = true then 0 else 2) else 1) 2 0) w.1 (cW w F A L) 4 24 11 [some (.ref 0), some (.int e), some (.int k), some (.int c), some (.int j), some (.int x), none, none] [] := by
    intro h
    refine x_thr rfl hn rfl (Nat.le_of_ble_eq_true rfl) (Nat.le_of_ble_eq_true rfl) (Nat.le_of_ble_eq_true rfl) ?_
    exact ⟨rfl, Or.inr ⟨by rw [if_pos h1, if_neg (fne h)], rfl⟩⟩
  refine x_iflt rfl (fun c1 => ?_) (fun c1 => ?_)
  · skip
    exact no (c_noN1 c1)
  refine x_il rfl rfl ?_
  refine x_c rfl ?_
  refine x_icle rfl (fun c2 => ?_) (fun c2 => ?_)
  rotate_left
  · skip
    exact no (ge_no2 (n := 3) rfl (by decide) c2)
  have h2 : okN x 3 = true := ge_ok2 (n := 3) rfl (by decide) c1 c2
  have hC : syP e k c j nm nc ∧ okN x 3 = true := ⟨h1, h2⟩
  rw [if_pos h1, if_pos h2, if_pos hC]
  obtain ⟨e, he, rfl, ee⟩ := ok_of h1.1 (by omega)
  obtain ⟨k, hk, rfl, ek⟩ := ok_of h1.2.1 (by omega)
  obtain ⟨c, hc, rfl, ec⟩ := ok_of h1.2.2.1 (by omega)
  obtain ⟨j, hj, rfl, ej⟩ := ok_of h1.2.2.2 (by omega)
  obtain ⟨x, hx, rfl, ex⟩ := ok_of h2 (by omega)
  rw [ec, ej]
  have hN := FN.neg (by omega) ((hI.ca hc).2.2.2.1 j hj).1
  have stay : ¬ (¬ ns = 200 ∧ 0 ≤ f (6607 + 26 * c + (6 + j))) → ∀ W, W = cW w F A L → caQ w F A (if syP (nI e) (nI k) (nI c) (nI j) nm nc ∧ okN (nI x) 3 = true ∧ ¬ ns = 200 ∧ 0 ≤ f (6607 + 26 * c + (6 + j)) then sayW f ns (nI e) (nI k) (nI c) (nI j) (nI x) else f) v 0 (some (.int (if ¬ ns = 200 ∧ 0 ≤ f (6607 + 26 * c + (6 + j)) then nI (ns + 1) else -1))) (some (.int (-1))) W := by
    rintro h _ rfl
    rw [if_neg (fun h8 => h h8.2.2), if_neg h]
    exact ca_ro hK hR hI rfl rfl
  refine x_al rfl rfl ?_
  refine x_getC rfl hn (by with_reducible exact sp_0) (by exact rfl) ?_
  refine x_getC rfl hn (by with_reducible exact (by first | exact sp_6 | exact st_0 (by assumption))) (by exact rfl) ?_
  refine x_as (lo' := [_, _, _, _, _, _, _, _]) rfl (Nat.le_of_ble_eq_true rfl) rfl ?_
  refine x_al rfl rfl ?_
  refine x_getC rfl hn (by with_reducible exact sp_0) (by exact rfl) ?_
  refine x_il rfl rfl ?_
  refine x_il rfl rfl ?_
  refine x_call3 (c_printAt hR h16 hc hj hn) rfl (Nat.le_of_ble_eq_true rfl) (Or.inl (by first | exact hn | assumption)) (rcv_at (cw_fs (by with_reducible exact (by first | exact sp_6 | exact st_0 (by assumption))) hn) (by decide) (by decide)) (Nat.le_of_ble_eq_true rfl) (Nat.le_of_ble_eq_true rfl) (fun E w9 hq => hq.elim) ?_
  rintro v9 w9 ⟨rfl, rfl⟩
  refine x_c rfl ?_
  refine x_iceq rfl (fun c3 => ?_) (fun c3 => ?_)
  · skip
    refine x_c rfl ?_
    refine x_reti rfl (Nat.le_of_ble_eq_true rfl) (Nat.le_of_ble_eq_true rfl) rfl ?_
    exact stay (fun h => absurd (hN.mp c3) (Int32.not_lt.mpr h.2)) _ rfl
  refine x_al rfl rfl ?_
  have h0 := Int32.not_lt.mp (fun h => c3 (hN.mpr h))
  refine x_call1 (m_isFull (cw_tab (w := w) (A := A) (L := L) tbS hR.sa.1 h200 (by decide) (by decide) hn).1 (by decide) (by omega)) rfl (Nat.le_of_ble_eq_true rfl) (Or.inl (by first | exact hn | assumption)) (rcv_at (cw_fs (by with_reducible exact tb_0 (by first | assumption | exact tbS | exact tbH)) hn) (by decide) (by decide)) (Nat.le_of_ble_eq_true rfl) (Nat.le_of_ble_eq_true rfl) (fun E w9 hq => hq.elim) ?_
  rintro v9 w9 ⟨rfl, rfl⟩
  by_cases hf : 200 ≤ ns
  · refine x_ifeq rfl (fun e9 => absurd ((bI_t hf).symm.trans e9) (by decide)) (fun e9 => ?_)
    refine x_c rfl ?_
    refine x_reti rfl (Nat.le_of_ble_eq_true rfl) (Nat.le_of_ble_eq_true rfl) rfl ?_
    exact stay (fun h => h.1 (by omega)) _ rfl
  · refine x_ifeq rfl (fun e9 => ?_) (fun e9 => absurd (bI_f hf) e9)
    have hns : ¬ ns = 200 := by omega
    rw [if_pos ⟨h1, h2, hns, h0⟩, if_pos ⟨hns, h0⟩]
    refine x_al rfl rfl ?_
    have ho := c_openSay (g := g) (d := d + 2) (w := w) (L := L) hR.sa h200 hn
    simp only [if_neg hf] at ho
    have e3 : udA F 17 (upd (F 17) 3 (nI (ns + 1))) 17 3 = nI (ns + 1) := rfl
    refine x_call1 (ho) rfl (Nat.le_of_ble_eq_true rfl) (Or.inl (by first | exact hn | assumption)) (rcv_at (cw_fs (by with_reducible exact tb_0 (by first | assumption | exact tbS | exact tbH)) hn) (by decide) (by decide)) (Nat.le_of_ble_eq_true rfl) (Nat.le_of_ble_eq_true rfl) (fun E w9 hq => hq.elim) ?_
    rintro v9 w9 ⟨rfl, rfl⟩
    refine x_is (lo' := [_, _, _, _, _, _, _, _]) rfl (Nat.le_of_ble_eq_true rfl) rfl ?_
    refine x_al rfl rfl ?_
    refine x_il rfl rfl ?_
    refine x_c rfl ?_
    refine x_il rfl rfl ?_
    refine x_call4 (c_putSay (c := 0) e3 (by omega) (Nat.lt_succ_self _) (by decide) hn) rfl (Nat.le_of_ble_eq_true rfl) (Or.inl (by first | exact hn | assumption)) (rcv_at (cw_fs (by with_reducible exact tb_0 (by first | assumption | exact tbS | exact tbH)) hn) (by decide) (by decide)) (Nat.le_of_ble_eq_true rfl) (Nat.le_of_ble_eq_true rfl) (fun E w9 hq => hq.elim) ?_
    rintro v9 w9 ⟨rfl, rfl⟩
    refine x_al rfl rfl ?_
    refine x_il rfl rfl ?_
    refine x_c rfl ?_
    refine x_il rfl rfl ?_
    refine x_call4 (c_putSay (c := 1) e3 (by omega) (Nat.lt_succ_self _) (by decide) hn) rfl (Nat.le_of_ble_eq_true rfl) (Or.inl (by first | exact hn | assumption)) (rcv_at (cw_fs (by with_reducible exact tb_0 (by first | assumption | exact tbS | exact tbH)) hn) (by decide) (by decide)) (Nat.le_of_ble_eq_true rfl) (Nat.le_of_ble_eq_true rfl) (fun E w9 hq => hq.elim) ?_
    rintro v9 w9 ⟨rfl, rfl⟩
    refine x_al rfl rfl ?_
    refine x_il rfl rfl ?_
    refine x_c rfl ?_
    refine x_il rfl rfl ?_
    refine x_call4 (c_putSay (c := 2) e3 (by omega) (Nat.lt_succ_self _) (by decide) hn) rfl (Nat.le_of_ble_eq_true rfl) (Or.inl (by first | exact hn | assumption)) (rcv_at (cw_fs (by with_reducible exact tb_0 (by first | assumption | exact tbS | exact tbH)) hn) (by decide) (by decide)) (Nat.le_of_ble_eq_true rfl) (Nat.le_of_ble_eq_true rfl) (fun E w9 hq => hq.elim) ?_
    rintro v9 w9 ⟨rfl, rfl⟩
    refine x_al rfl rfl ?_
    refine x_il rfl rfl ?_
    refine x_c rfl ?_
    refine x_il rfl rfl ?_
    refine x_call4 (c_putSay (c := 3) e3 (by omega) (Nat.lt_succ_self _) (by decide) hn) rfl (Nat.le_of_ble_eq_true rfl) (Or.inl (by first | exact hn | assumption)) (rcv_at (cw_fs (by with_reducible exact tb_0 (by first | assumption | exact tbS | exact tbH)) hn) (by decide) (by decide)) (Nat.le_of_ble_eq_true rfl) (Nat.le_of_ble_eq_true rfl) (fun E w9 hq => hq.elim) ?_
    rintro v9 w9 ⟨rfl, rfl⟩
    refine x_al rfl rfl ?_
    refine x_il rfl rfl ?_
    refine x_c rfl ?_
    refine x_il rfl rfl ?_
    refine x_call4 (c_putSay (c := 4) e3 (by omega) (Nat.lt_succ_self _) (by decide) hn) rfl (Nat.le_of_ble_eq_true rfl) (Or.inl (by first | exact hn | assumption)) (rcv_at (cw_fs (by with_reducible exact tb_0 (by first | assumption | exact tbS | exact tbH)) hn) (by decide) (by decide)) (Nat.le_of_ble_eq_true rfl) (Nat.le_of_ble_eq_true rfl) (fun E w9 hq => hq.elim) ?_
    rintro v9 w9 ⟨rfl, rfl⟩
    refine x_al rfl rfl ?_
    refine x_il rfl rfl ?_
    refine x_c rfl ?_
    refine x_al rfl rfl ?_
    refine x_getC rfl hn (by with_reducible exact sp_0) (by exact rfl) ?_
    refine x_getC rfl hn (by with_reducible exact (by first | exact sp_6 | exact st_0 (by assumption))) (by exact rfl) ?_
    rw [show udA F 17 (upd (F 17) 3 (nI (ns + 1))) 6 0 = f 0 from hR.1.1]
    refine x_call4 (c_putSay (c := 5) e3 (by omega) (Nat.lt_succ_self _) (by decide) hn) rfl (Nat.le_of_ble_eq_true rfl) (Or.inl (by first | exact hn | assumption)) (rcv_at (cw_fs (by with_reducible exact tb_0 (by first | assumption | exact tbS | exact tbH)) hn) (by decide) (by decide)) (Nat.le_of_ble_eq_true rfl) (Nat.le_of_ble_eq_true rfl) (fun E w9 hq => hq.elim) ?_
    rintro v9 w9 ⟨rfl, rfl⟩
    refine x_al rfl rfl ?_
    refine x_getC rfl hn (by with_reducible exact tb_0 (by first | assumption | exact tbS | exact tbH)) (by exact rfl) ?_
    refine x_reti rfl (Nat.le_of_ble_eq_true rfl) (Nat.le_of_ble_eq_true rfl) rfl ?_
    simp only [udA_t, udA_udA]
    have hT := sayR_tab (e := nI e) (k := nI k) (c := nI c) (j := nI j) (x := nI x) hR.sa
    obtain ⟨t0, ht0, et0⟩ := hI.2.1.1
    exact ca_st (np' := np) (nm' := nm) (nc' := nc) (nt' := nt) (ns' := ns + 1) (nh' := nh) (v' := v) (hR.say hI (fun i hi => sayW_o (by omega) (by omega)) (fun q h1 h2 h3 => udA_ne h3) (fun q h1 h2 h3 => udA_ne h3) hT) (hI.say (fun i hi => sayW_o (by omega) (by omega)) ⟨upd_at, by omega⟩ (fun r hr => by
      by_cases er : r = ns
      · subst er
        unfold SaI
        have ht := fun i hi => (hT.2 r (by omega) i hi).symm
        refine ⟨⟨e, he, (ht 0 (by decide)).trans ?_⟩, ⟨k, hk, (ht 1 (by decide)).trans ?_⟩, ⟨c, hc, (ht 2 (by decide)).trans ?_⟩, ⟨j, hj, (ht 3 (by decide)).trans ?_⟩, ⟨x, hx, (ht 4 (by decide)).trans ?_⟩, ⟨t0, ht0, (ht 5 (by decide)).trans ?_⟩⟩
        · show sayR A r (nI e) (nI k) (nI c) (nI j) (nI x) (f 0) (r * 6 + 0) = _
          unfold sayR
          rw [upd_ne (by omega), upd_ne (by omega), upd_ne (by omega), upd_ne (by omega), upd_ne (by omega), upd_at]
        · show sayR A r (nI e) (nI k) (nI c) (nI j) (nI x) (f 0) (r * 6 + 1) = _
          unfold sayR
          rw [upd_ne (by omega), upd_ne (by omega), upd_ne (by omega), upd_ne (by omega), upd_at]
        · show sayR A r (nI e) (nI k) (nI c) (nI j) (nI x) (f 0) (r * 6 + 2) = _
          unfold sayR
          rw [upd_ne (by omega), upd_ne (by omega), upd_ne (by omega), upd_at]
        · show sayR A r (nI e) (nI k) (nI c) (nI j) (nI x) (f 0) (r * 6 + 3) = _
          unfold sayR
          rw [upd_ne (by omega), upd_ne (by omega), upd_at]
        · show sayR A r (nI e) (nI k) (nI c) (nI j) (nI x) (f 0) (r * 6 + 4) = _
          unfold sayR
          rw [upd_ne (by omega), upd_at]
        · show sayR A r (nI e) (nI k) (nI c) (nI j) (nI x) (f 0) (r * 6 + 5) = _
          unfold sayR
          rw [upd_at, et0]
      · have := hI.sa (show r < ns by omega)
        unfold SaI at this ⊢
        rw [sayW_o (by omega) (by omega), sayW_o (by omega) (by omega), sayW_o (by omega) (by omega), sayW_o (by omega) (by omega), sayW_o (by omega) (by omega), sayW_o (by omega) (by omega)]
        exact this)) ((hK.cong (f' := sayW f ns (nI e) (nI k) (nI c) (nI j) (nI x)) (np' := np) (nm' := nm) ⟨sayW_o (by omega) (by omega), fun p hp i h1 h2 => sayW_o (by omega) (by omega), fun k hk i h1 h2 => sayW_o (by omega) (by omega)⟩ hI.wp h60 h20 (Nat.le_refl _) (Nat.le_refl _)).keepC rfl rfl) (Nat.le_succ _) (fun q hq => ⟨udA_ne (by omega), udA_ne (by omega)⟩) rfl rfl
theorem c_firstRow (hT : RsTab F A 19 7 11425 f nh) (h200 : nh ≤ 200) (hn : w.1 = N0) : Ev g (d + 2) 165 [.ref 0] (cW w F A L) (RetQ (nI (nh - min 6 nh)) (cW w F A L)) noX := by
  refine ev_X10_firstRow ?_ (Nat.le_of_ble_eq_true rfl)
  refine x_lo (lo' := [some (.ref 0)]) rfl ?_
  refine x_c rfl ?_
  refine x_al rfl rfl ?_
  refine x_getC rfl hn (by with_reducible exact sp_0) (by exact rfl) ?_
  refine x_getC rfl hn (by with_reducible exact (by first | exact sp_6 | exact st_0 (by assumption))) (by exact rfl) ?_
  refine x_getC rfl hn (by with_reducible exact tb_0 (by first | assumption | exact tbS | exact tbH)) (by exact rfl) ?_
  rw [hT.1]
  refine x_c rfl ?_
  refine x_sub rfl ?_
  refine x_call2 (m_max) rfl (Nat.le_of_ble_eq_true rfl) (Or.inl (by first | exact hn | assumption)) trivial (Nat.le_of_ble_eq_true rfl) (Nat.le_of_ble_eq_true rfl) (fun E w9 hq => hq.elim) ?_
  rintro v9 w9 ⟨rfl, rfl⟩
  refine x_reti rfl (Nat.le_of_ble_eq_true rfl) (Nat.le_of_ble_eq_true rfl) rfl ?_
  refine ⟨?_, rfl⟩
  by_cases h : 6 ≤ nh
  · rw [show nI nh - 6 = nI (nh - 6) from pk_sub (a := nh) (b := 6) h, Nat.min_eq_left h]
    by_cases h2 : nI (nh - 6) ≤ 0
    · rw [if_pos h2, show nh - 6 = 0 from by have := (nI_leI (a := nh - 6) (b := 0) (by omega) (by omega)).mp h2; omega]
      rfl
    · rw [if_neg h2]
  · obtain rfl | rfl | rfl | rfl | rfl | rfl : nh = 0 ∨ nh = 1 ∨ nh = 2 ∨ nh = 3 ∨ nh = 4 ∨ nh = 5 := by omega
    all_goals decide
theorem hit_put {r c : Nat} {x : Int32} (hT : RsTab F A 19 7 11425 f nh) (hc : c < 7) : RsTab F (udA A 20 (upd (A 20) (r * 7 + c) x)) 19 7 11425 (upd f (11425 + 7 * r + c) x) nh := by
  refine ⟨hT.1, fun r' hr' i hi => ?_⟩
  show udA A 20 (upd (A 20) (r * 7 + c) x) 20 (r' * 7 + i) = _
  rw [udA_t]
  by_cases e : r' = r ∧ i = c
  · obtain ⟨rfl, rfl⟩ := e
    rw [upd_at, show 11425 + 7 * r' + i = 11425 + 7 * r' + i from rfl, upd_at]
  · rw [upd_ne (by omega), upd_ne (by omega)]
    exact hT.2 r' hr' i hi
theorem c_tear {i mk : Int32} (hK : KI F A f np nm v) (hR : RS F A f 6 np nm nc nt ns nh) (hI : IV f np nm nc nt ns nh) (hn : w.1 = N0) : Ev g (d + 4) 163 [.ref 0, .int i, .int mk] (cW w F A L) (caQ w F A ((tearF f mk (rowN nh i)).1) v ((tearF f mk (rowN nh i)).2.2) (some (.int (tearF f mk (rowN nh i)).2.1))) (caX (cW w F A L) ((tearF f mk (rowN nh i)).2.2) 3 0) := by
  have h60 := hI.p60
  have h20 := hI.m20
  have h16 := hI.c16
  have h10 := hI.t10
  have h200 := hI.s200
  have hh200 := hI.h200
  refine ev_X10_tear ?_ (Nat.le_of_ble_eq_true rfl)
  refine x_lo (lo' := [some (.ref 0), some (.int i), some (.int mk), none]) rfl ?_
  refine x_il rfl rfl ?_
  have no0 : okN i (min 6 nh) = false → ∀ uc us : Nat, uc = 0 → us = 0 → EX g mbOf (Ev g (d + 3)) (infoOf 163) k_X10_tear (caQ w F A ((tearF f mk (rowN nh i)).1) v ((tearF f mk (rowN nh i)).2.2) (some (.int (tearF f mk (rowN nh i)).2.1))) (caX (cW w F A L) ((tearF f mk (rowN nh i)).2.2) 3 0) w.1 (cW w F A L) uc us 10 [some (.ref 0), some (.int i), some (.int mk), none] [] := by
    rintro h _ _ rfl rfl
    have e : rowN nh i = none := by unfold rowN; rw [if_neg (fne h)]
    refine x_thr rfl hn rfl (Nat.le_of_ble_eq_true rfl) (Nat.le_of_ble_eq_true rfl) (Nat.le_of_ble_eq_true rfl) ?_
    exact ⟨rfl, Or.inl ⟨by rw [e]; rfl, rfl⟩⟩
  refine x_iflt rfl (fun c1 => ?_) (fun c1 => ?_)
  · skip
    exact no0 (c_noN1 c1) _ _ rfl rfl
  refine x_il rfl rfl ?_
  refine x_c rfl ?_
  refine x_al rfl rfl ?_
  refine x_getC rfl hn (by with_reducible exact sp_0) (by exact rfl) ?_
  refine x_getC rfl hn (by with_reducible exact (by first | exact sp_6 | exact st_0 (by assumption))) (by exact rfl) ?_
  refine x_getC rfl hn (by with_reducible exact tb_0 (by first | assumption | exact tbS | exact tbH)) (by exact rfl) ?_
  rw [show F 19 3 = nI nh from hR.hi.1]
  refine x_call2 (m_minN ⟨by decide, by omega⟩) rfl (Nat.le_of_ble_eq_true rfl) (Or.inl (by first | exact hn | assumption)) trivial (Nat.le_of_ble_eq_true rfl) (Nat.le_of_ble_eq_true rfl) (fun E w9 hq => hq.elim) ?_
  rintro v9 w9 ⟨rfl, rfl⟩
  refine x_iclt rfl (fun c2 => ?_) (fun c2 => ?_)
  rotate_left
  · skip
    exact no0 (c_noN2 (Int32.not_lt.mp c2)) _ _ rfl rfl
  have h1 : okN i (min 6 nh) = true := c_okN (by omega) c1 (Int32.not_le.mpr c2)
  obtain ⟨i, hi, rfl, ei⟩ := ok_of h1 (by omega)
  have er : rowN nh (nI i) = some (11425 + 7 * (nh - min 6 nh + i)) := by unfold rowN; rw [if_pos h1, ei]
  rw [er]
  refine x_al rfl rfl ?_
  refine x_call1 (c_firstRow hR.hi (by omega) hn) rfl (Nat.le_of_ble_eq_true rfl) (Or.inl (by first | exact hn | assumption)) (rcv_at (cw_fs (by with_reducible exact sp_0) hn) (by decide) (by decide)) (Nat.le_of_ble_eq_true rfl) (Nat.le_of_ble_eq_true rfl) (fun E w9 hq => hq.elim) ?_
  rintro v9 w9 ⟨rfl, rfl⟩
  refine x_il rfl rfl ?_
  refine x_addN rfl ?_
  refine x_is (lo' := [_, _, _, _]) rfl (Nat.le_of_ble_eq_true rfl) rfl ?_
  refine x_al rfl rfl ?_
  refine x_getC rfl hn (by with_reducible exact sp_0) (by exact rfl) ?_
  refine x_getC rfl hn (by with_reducible exact (by first | exact sp_6 | exact st_0 (by assumption))) (by exact rfl) ?_
  refine x_il rfl rfl ?_
  refine x_c rfl ?_
  refine x_al rfl rfl ?_
  refine x_getC rfl hn (by with_reducible exact sp_0) (by exact rfl) ?_
  refine x_getC rfl hn (by with_reducible exact (by first | exact sp_6 | exact st_0 (by assumption))) (by exact rfl) ?_
  refine x_il rfl rfl ?_
  refine x_c rfl ?_
  refine x_call3 (c_hitAt hR.hi (by omega) (r := nh - min 6 nh + i) (c := 4) (by omega) (by decide) hn) rfl (Nat.le_of_ble_eq_true rfl) (Or.inl (by first | exact hn | assumption)) (rcv_at (cw_fs (by with_reducible exact tb_0 (by first | assumption | exact tbS | exact tbH)) hn) (by decide) (by decide)) (Nat.le_of_ble_eq_true rfl) (Nat.le_of_ble_eq_true rfl) (fun E w9 hq => hq.elim) ?_
  rintro v9 w9 ⟨rfl, rfl⟩
  refine x_il rfl rfl ?_
  refine x_xor rfl ?_
  refine x_call4 (c_putHit (n := nh) hR.hi.1 (by omega) (r := nh - min 6 nh + i) (c := 4) (by omega) (by decide) hn) rfl (Nat.le_of_ble_eq_true rfl) (Or.inl (by first | exact hn | assumption)) (rcv_at (cw_fs (by with_reducible exact tb_0 (by first | assumption | exact tbS | exact tbH)) hn) (by decide) (by decide)) (Nat.le_of_ble_eq_true rfl) (Nat.le_of_ble_eq_true rfl) (fun E w9 hq => hq.elim) ?_
  rintro v9 w9 ⟨rfl, rfl⟩
  refine x_al rfl rfl ?_
  refine x_getC rfl hn (by with_reducible exact sp_0) (by exact rfl) ?_
  refine x_getC rfl hn (by with_reducible exact (by first | exact sp_6 | exact st_0 (by assumption))) (by exact rfl) ?_
  refine x_il rfl rfl ?_
  refine x_c rfl ?_
  have hT := hit_put (r := nh - min 6 nh + i) (c := 4) (x := f (11425 + 7 * (nh - min 6 nh + i) + 4) ^^^ mk) hR.hi (by decide)
  refine x_call3 (c_hitAt hT (by omega) (r := nh - min 6 nh + i) (c := 4) (by omega) (by decide) hn) rfl (Nat.le_of_ble_eq_true rfl) (Or.inl (by first | exact hn | assumption)) (rcv_at (cw_fs (by with_reducible exact tb_0 (by first | assumption | exact tbS | exact tbH)) hn) (by decide) (by decide)) (Nat.le_of_ble_eq_true rfl) (Nat.le_of_ble_eq_true rfl) (fun E w9 hq => hq.elim) ?_
  rintro v9 w9 ⟨rfl, rfl⟩
  refine x_reti rfl (Nat.le_of_ble_eq_true rfl) (Nat.le_of_ble_eq_true rfl) rfl ?_
  have hd : agD f (upd f (11425 + 7 * (nh - min 6 nh + i) + 4) (f (11425 + 7 * (nh - min 6 nh + i) + 4) ^^^ mk)) := fun k hk => upd_ne (fun e => hk (by unfold dkC; omega))
  refine ca_st (f1 := upd f (11425 + 7 * (nh - min 6 nh + i) + 4) (f (11425 + 7 * (nh - min 6 nh + i) + 4) ^^^ mk)) (np' := np) (nm' := nm) (nc' := nc) (nt' := nt) (ns' := ns) (nh' := nh) (v' := v) (hR.desk hI hd (by rw [upd_ne (by omega)]; exact hR.1.2.2.2.1) (fun _ _ => rfl) (fun _ _ _ _ => rfl) (fun q h1 h2 h3 h4 => udA_ne h3) (fun c hc => ?_) hT) (hI.desk hd (by rw [upd_ne (by omega)]; exact hI.1.2.2.2.2.2.1) hh200 (fun k c j h1 h2 h3 h4 => by rw [upd_ne (by omega)]; exact hI.2.2.2.2.2.1.2 k c j h1 h2 h3 h4)) ((hK.cong (samL_d hd h60 h20) hI.wp h60 h20 (Nat.le_refl _) (Nat.le_refl _)).keepC rfl (udA_ne (by omega))) (Nat.le_succ _) (fun q hq => ⟨rfl, udA_ne (by omega)⟩) (by rw [upd_at]; rfl) rfl
  exact ((hR.ca hc).keep (F' := F) (A' := udA A 20 _) (fun r h1 h2 => ⟨rfl, udA_ne (by omega)⟩)).cong (fun k h1 h2 => upd_ne (by omega)) (fun k j hk hj => by rw [upd_ne (by omega)])
theorem c_check  (hK : KI F A f np nm v) (hR : RS F A f 6 np nm nc nt ns nh) (hI : IV f np nm nc nt ns nh) (hn : w.1 = N0) : Ev g (d + 4) 164 [.ref 0] (cW w F A L) (caQ w F A (f) v (0) (some (.int (chkF f nh 0)))) (caX (cW w F A L) (0) 3 0) := by
  have h60 := hI.p60
  have h20 := hI.m20
  have h16 := hI.c16
  have h10 := hI.t10
  have h200 := hI.s200
  have hh200 := hI.h200
  refine ev_X10_check ?_ (Nat.le_of_ble_eq_true rfl)
  refine x_lo (lo' := [some (.ref 0), none, none]) rfl ?_
  refine x_al rfl rfl ?_
  refine x_call1 (c_firstRow hR.hi (by omega) hn) rfl (Nat.le_of_ble_eq_true rfl) (Or.inl (by first | exact hn | assumption)) (rcv_at (cw_fs (by with_reducible exact sp_0) hn) (by decide) (by decide)) (Nat.le_of_ble_eq_true rfl) (Nat.le_of_ble_eq_true rfl) (fun E w9 hq => hq.elim) ?_
  rintro v9 w9 ⟨rfl, rfl⟩
  refine x_is (lo' := [_, _, _]) rfl (Nat.le_of_ble_eq_true rfl) rfl ?_
  refine x_il rfl rfl ?_
  refine x_is (lo' := [_, _, _]) rfl (Nat.le_of_ble_eq_true rfl) rfl ?_
  have loop : ∀ c, c ≤ min 6 nh → ∀ uc us : Nat, uc = 0 + (mbOf 165).1 → us = 0 + (mbOf 165).2 → EX g mbOf (Ev g (d + 3)) (infoOf 164) k_X10_check (caQ w F A f v 0 (some (.int (chkF f nh c)))) (caX (cW w F A L) 0 3 0) w.1 (cW w F A L) uc us 5 [some (.ref 0), some (.int (nI (nh - min 6 nh))), some (.int (nI (nh - min 6 nh + c)))] [] := by
    refine downN (min 6 nh) fun c hc ih => ?_
    rintro _ _ rfl rfl
    refine x_il rfl rfl ?_
    refine x_al rfl rfl ?_
    refine x_getC rfl hn (by with_reducible exact sp_0) (by exact rfl) ?_
    refine x_getC rfl hn (by with_reducible exact (by first | exact sp_6 | exact st_0 (by assumption))) (by exact rfl) ?_
    refine x_getC rfl hn (by with_reducible exact tb_0 (by first | assumption | exact tbS | exact tbH)) (by exact rfl) ?_
    rw [show F 19 3 = nI nh from hR.hi.1]
    refine x_icgeN rfl (by omega) (fun c0 => ?_) (fun c0 => ?_)
    · refine x_c rfl ?_
      refine x_reti rfl (Nat.le_of_ble_eq_true rfl) (Nat.le_of_ble_eq_true rfl) rfl ?_
      have e : chkF f nh c = -1 := it_end (by omega)
      rw [e]
      exact ca_ro hK hR hI rfl rfl
    refine x_al rfl rfl ?_
    refine x_getC rfl hn (by with_reducible exact sp_0) (by exact rfl) ?_
    refine x_getC rfl hn (by with_reducible exact (by first | exact sp_6 | exact st_0 (by assumption))) (by exact rfl) ?_
    refine x_il rfl rfl ?_
    refine x_c rfl ?_
    have hcm : c < min 6 nh := by omega
    have ih := ih hcm
    refine x_call3 (c_hitAt hR.hi (by omega) (r := nh - min 6 nh + c) (c := 4) (by omega) (by decide) hn) rfl (Nat.le_of_ble_eq_true rfl) (Or.inl (by first | exact hn | assumption)) (rcv_at (cw_fs (by with_reducible exact tb_0 (by first | assumption | exact tbS | exact tbH)) hn) (by decide) (by decide)) (Nat.le_of_ble_eq_true rfl) (Nat.le_of_ble_eq_true rfl) (fun E w9 hq => hq.elim) ?_
    rintro v9 w9 ⟨rfl, rfl⟩
    refine x_al rfl rfl ?_
    refine x_getC rfl hn (by with_reducible exact sp_0) (by exact rfl) ?_
    refine x_getC rfl hn (by with_reducible exact (by first | exact sp_6 | exact st_0 (by assumption))) (by exact rfl) ?_
    refine x_il rfl rfl ?_
    refine x_c rfl ?_
    refine x_call3 (c_hitAt hR.hi (by omega) (r := nh - min 6 nh + c) (c := 6) (by omega) (by decide) hn) rfl (Nat.le_of_ble_eq_true rfl) (Or.inl (by first | exact hn | assumption)) (rcv_at (cw_fs (by with_reducible exact tb_0 (by first | assumption | exact tbS | exact tbH)) hn) (by decide) (by decide)) (Nat.le_of_ble_eq_true rfl) (Nat.le_of_ble_eq_true rfl) (fun E w9 hq => hq.elim) ?_
    rintro v9 w9 ⟨rfl, rfl⟩
    refine x_iceq rfl (fun c1 => ?_) (fun c1 => ?_)
    · refine x_inc1 (lo' := [_, _, _]) rfl rfl rfl ?_
      refine x_go rfl ?_
      have e : chkF f nh c = chkF f nh (c + 1) := it_go hcm (if_neg (fun h => h c1))
      rw [e]
      exact ih _ _ rfl rfl
    refine x_il rfl rfl ?_
    refine x_il rfl rfl ?_
    first | refine x_subN rfl (by omega) ?_ | refine x_sub rfl ?_
    refine x_reti rfl (Nat.le_of_ble_eq_true rfl) (Nat.le_of_ble_eq_true rfl) rfl ?_
    have e : chkF f nh c = nI c := it_ret hcm (if_pos c1)
    rw [e]
    exact ca_ro hK hR hI (by rw [show nh - min 6 nh + c - (nh - min 6 nh) = c by omega]) rfl
  exact loop 0 (Nat.zero_le _) _ _ rfl rfl
theorem c_count {x : Int32} (hK : KI F A f np nm v) (hR : RS F A f 6 np nm nc nt ns nh) (hI : IV f np nm nc nt ns nh) (hn : w.1 = N0) : Ev g (d + 4) 168 [.ref 0, .int x] (cW w F A L) (caQ w F A (f) v (0) (some (.int (cntW f nt nc x)))) (caX (cW w F A L) (0) 0 0) := by
  have h60 := hI.p60
  have h20 := hI.m20
  have h16 := hI.c16
  have h10 := hI.t10
  have h200 := hI.s200
  have hh200 := hI.h200
  refine ev_X10_count ?_ (Nat.le_of_ble_eq_true rfl)
  refine x_lo (lo' := [some (.ref 0), some (.int x)]) rfl ?_
  refine x_il rfl rfl ?_
  cases hb : okN x 12 with
  | false =>
    have h1 := of_decide_eq_false hb
    have hno : ∀ k : Nat, k < 12 → ¬ x = nI k := by
      intro k hk e
      exact h1 (by rw [e]; exact ⟨nI_pos' (by omega), nI_lt hk (by omega)⟩)
    have e : cntW f nt nc x = -1 := by
      unfold cntW
      rw [if_neg (show ¬ x = 0 from hno 0 (by decide)), if_neg (show ¬ x = 1 from hno 1 (by decide)), if_neg (show ¬ x = 2 from hno 2 (by decide)), if_neg (show ¬ x = 3 from hno 3 (by decide)), if_neg (show ¬ x = 4 from hno 4 (by decide)), if_neg (show ¬ x = 5 from hno 5 (by decide)), if_neg (show ¬ x = 6 from hno 6 (by decide)), if_neg (show ¬ x = 7 from hno 7 (by decide)), if_neg (show ¬ x = 8 from hno 8 (by decide)), if_neg (show ¬ x = 9 from hno 9 (by decide)), if_neg (show ¬ x = 10 from hno 10 (by decide)), if_neg (show ¬ x = 11 from hno 11 (by decide))]
    rw [e]
    refine x_swD rfl ?_ ?_
    · rcases Int.lt_or_le x.toInt 0 with h | h
      · exact Or.inl h
      · right
        rcases Int.lt_or_le x.toInt 12 with h2 | h2
        · exact absurd ⟨Int32.le_iff_toInt_le.mpr h, Int32.lt_iff_toInt_lt.mpr h2⟩ h1
        · exact h2
    refine x_c rfl ?_
    refine x_reti rfl (Nat.le_of_ble_eq_true rfl) (Nat.le_of_ble_eq_true rfl) rfl ?_
    exact ca_ro hK hR hI rfl rfl
  | true =>
    obtain ⟨u, hu, rfl, -⟩ := ok_of hb (by omega)
    obtain ⟨r0, r1, r2, r3, r4, r5, r6, r7⟩ := hR.1
    rcases (show u = 0 ∨ u = 1 ∨ u = 2 ∨ u = 3 ∨ u = 4 ∨ u = 5 ∨ u = 6 ∨ u = 7 ∨ u = 8 ∨ u = 9 ∨ u = 10 ∨ u = 11 by omega) with rfl | rfl | rfl | rfl | rfl | rfl | rfl | rfl | rfl | rfl | rfl | rfl
    · refine x_swJ 0 rfl (by decide) rfl ?_
      refine x_al rfl rfl ?_
      refine x_getC rfl hn (by with_reducible exact sp_0) (by exact rfl) ?_
      refine x_getC rfl hn (by with_reducible exact (by first | exact sp_6 | exact st_0 (by assumption))) (by exact rfl) ?_
      refine x_reti rfl (Nat.le_of_ble_eq_true rfl) (Nat.le_of_ble_eq_true rfl) rfl ?_
      exact ca_ro hK hR hI (by rw [show F 6 0 = f 0 from r0]; rfl) rfl
    · refine x_swJ 1 rfl (by decide) rfl ?_
      refine x_al rfl rfl ?_
      refine x_getC rfl hn (by with_reducible exact sp_0) (by exact rfl) ?_
      refine x_getC rfl hn (by with_reducible exact (by first | exact sp_6 | exact st_0 (by assumption))) (by exact rfl) ?_
      refine x_reti rfl (Nat.le_of_ble_eq_true rfl) (Nat.le_of_ble_eq_true rfl) rfl ?_
      exact ca_ro hK hR hI (by rw [show F 6 4 = nI np from r4, ← hI.1.1.1]; rfl) rfl
    · refine x_swJ 2 rfl (by decide) rfl ?_
      refine x_al rfl rfl ?_
      refine x_getC rfl hn (by with_reducible exact sp_0) (by exact rfl) ?_
      refine x_getC rfl hn (by with_reducible exact (by first | exact sp_6 | exact st_0 (by assumption))) (by exact rfl) ?_
      refine x_reti rfl (Nat.le_of_ble_eq_true rfl) (Nat.le_of_ble_eq_true rfl) rfl ?_
      exact ca_ro hK hR hI (by rw [show F 6 6 = nI nc from r6, ← hI.1.2.2.1.1]; rfl) rfl
    · refine x_swJ 3 rfl (by decide) rfl ?_
      refine x_al rfl rfl ?_
      refine x_getC rfl hn (by with_reducible exact sp_0) (by exact rfl) ?_
      refine x_call1 (c_countInFile hR hI hn) rfl (Nat.le_of_ble_eq_true rfl) (Or.inl (by first | exact hn | assumption)) (rcv_at (cw_fs (by with_reducible exact (by first | exact sp_6 | exact st_0 (by assumption))) hn) (by decide) (by decide)) (Nat.le_of_ble_eq_true rfl) (Nat.le_of_ble_eq_true rfl) (fun E w9 hq => hq.elim) ?_
      rintro v9 w9 ⟨rfl, rfl⟩
      refine x_reti rfl (Nat.le_of_ble_eq_true rfl) (Nat.le_of_ble_eq_true rfl) rfl ?_
      exact ca_ro hK hR hI rfl rfl
    · refine x_swJ 4 rfl (by decide) rfl ?_
      refine x_al rfl rfl ?_
      refine x_getC rfl hn (by with_reducible exact sp_0) (by exact rfl) ?_
      refine x_getC rfl hn (by with_reducible exact (by first | exact sp_6 | exact st_0 (by assumption))) (by exact rfl) ?_
      refine x_reti rfl (Nat.le_of_ble_eq_true rfl) (Nat.le_of_ble_eq_true rfl) rfl ?_
      exact ca_ro hK hR hI (by rw [show F 6 5 = nI nm from r5, ← hI.1.2.1.1]; rfl) rfl
    · refine x_swJ 5 rfl (by decide) rfl ?_
      refine x_al rfl rfl ?_
      refine x_getC rfl hn (by with_reducible exact sp_0) (by exact rfl) ?_
      refine x_getC rfl hn (by with_reducible exact (by first | exact sp_6 | exact st_0 (by assumption))) (by exact rfl) ?_
      refine x_reti rfl (Nat.le_of_ble_eq_true rfl) (Nat.le_of_ble_eq_true rfl) rfl ?_
      exact ca_ro hK hR hI (by rw [show F 6 7 = nI nt from r7, ← hI.1.2.2.2.1.1]; rfl) rfl
    · refine x_swJ 6 rfl (by decide) rfl ?_
      refine x_al rfl rfl ?_
      refine x_getC rfl hn (by with_reducible exact sp_0) (by exact rfl) ?_
      refine x_al rfl rfl ?_
      refine x_getC rfl hn (by with_reducible exact sp_0) (by exact rfl) ?_
      refine x_getC rfl hn (by with_reducible exact (by first | exact sp_6 | exact st_0 (by assumption))) (by exact rfl) ?_
      rw [show F 6 0 = f 0 from r0]
      refine x_call2 (c_textOn hR h10 hn) rfl (Nat.le_of_ble_eq_true rfl) (Or.inl (by first | exact hn | assumption)) (rcv_at (cw_fs (by with_reducible exact (by first | exact sp_6 | exact st_0 (by assumption))) hn) (by decide) (by decide)) (Nat.le_of_ble_eq_true rfl) (Nat.le_of_ble_eq_true rfl) (fun E w9 hq => hq.elim) ?_
      rintro v9 w9 ⟨rfl, rfl⟩
      refine x_getC rfl hn (by with_reducible exact te_0 (by first | assumption | exact teA (by omega) | exact teN | exact teD | exact te_b (by assumption) | exact teB (by assumption) (by omega))) (by exact rfl) ?_
      refine x_reti rfl (Nat.le_of_ble_eq_true rfl) (Nat.le_of_ble_eq_true rfl) rfl ?_
      have ho := hR.txo (f 0)
      refine ca_ro hK hR hI (by
        show some (Value.int (F (teQ (bestT f (f 0) nt)) 1)) = some (Value.int (rulN f (bestT f (f 0) nt)))
        cases h : bestT f (f 0) nt with
        | none => rw [h] at ho; exact congrArg (fun x => some (Value.int x)) ho
        | some t =>
          rw [h] at ho
          obtain ⟨r, hr⟩ := ho
          exact congrArg (fun x => some (Value.int x)) (hr.2.1.trans hr.2.2.1.symm)) rfl
    · refine x_swJ 7 rfl (by decide) rfl ?_
      refine x_al rfl rfl ?_
      refine x_getC rfl hn (by with_reducible exact sp_0) (by exact rfl) ?_
      refine x_getC rfl hn (by with_reducible exact (by first | exact sp_6 | exact st_0 (by assumption))) (by exact rfl) ?_
      refine x_getC rfl hn (by with_reducible exact tb_0 (by first | assumption | exact tbS | exact tbH)) (by exact rfl) ?_
      refine x_reti rfl (Nat.le_of_ble_eq_true rfl) (Nat.le_of_ble_eq_true rfl) rfl ?_
      exact ca_ro hK hR hI (by rw [show F 17 3 = nI ns from hR.sa.1, ← hI.1.2.2.2.2.1.1]; rfl) rfl
    · refine x_swJ 8 rfl (by decide) rfl ?_
      refine x_al rfl rfl ?_
      refine x_getC rfl hn (by with_reducible exact sp_0) (by exact rfl) ?_
      refine x_getC rfl hn (by with_reducible exact (by first | exact sp_6 | exact st_0 (by assumption))) (by exact rfl) ?_
      refine x_getC rfl hn (by with_reducible exact tb_0 (by first | assumption | exact tbS | exact tbH)) (by exact rfl) ?_
      refine x_reti rfl (Nat.le_of_ble_eq_true rfl) (Nat.le_of_ble_eq_true rfl) rfl ?_
      exact ca_ro hK hR hI (by rw [show F 19 3 = nI nh from hR.hi.1, ← hI.1.2.2.2.2.2.1]; rfl) rfl
    · refine x_swJ 9 rfl (by decide) rfl ?_
      refine x_al rfl rfl ?_
      refine x_getC rfl hn (by with_reducible exact sp_0) (by exact rfl) ?_
      refine x_getC rfl hn (by with_reducible exact (by first | exact sp_6 | exact st_0 (by assumption))) (by exact rfl) ?_
      refine x_reti rfl (Nat.le_of_ble_eq_true rfl) (Nat.le_of_ble_eq_true rfl) rfl ?_
      exact ca_ro hK hR hI (by rw [show F 6 3 = f 3 from r3]; rfl) rfl
    · refine x_swJ 10 rfl (by decide) rfl ?_
      refine x_al rfl rfl ?_
      refine x_getC rfl hn (by with_reducible exact sp_0) (by exact rfl) ?_
      refine x_getC rfl hn (by with_reducible exact (by first | exact sp_6 | exact st_0 (by assumption))) (by exact rfl) ?_
      refine x_reti rfl (Nat.le_of_ble_eq_true rfl) (Nat.le_of_ble_eq_true rfl) rfl ?_
      exact ca_ro hK hR hI (by rw [show F 6 1 = f 1 from r1]; rfl) rfl
    · refine x_swJ 11 rfl (by decide) rfl ?_
      refine x_al rfl rfl ?_
      refine x_getC rfl hn (by with_reducible exact sp_0) (by exact rfl) ?_
      refine x_getC rfl hn (by with_reducible exact (by first | exact sp_6 | exact st_0 (by assumption))) (by exact rfl) ?_
      refine x_reti rfl (Nat.le_of_ble_eq_true rfl) (Nat.le_of_ble_eq_true rfl) rfl ?_
      exact ca_ro hK hR hI (by rw [show F 6 2 = f 2 from r2]; rfl) rfl
end CALLS
