/-! doubt, say, tear, check, count; cw_ -/
section K
variable {F A F' A' : Nat → Nat → Int32} {f f' : Nat → Int32} {np nm nc nt ns nh v : Nat}
theorem z_rng {z : Int32} (h1 : -1 ≤ z) (h2 : z ≤ 7) : z = -1 ∨ ∃ v, v < 8 ∧ z = nI v := by
  rw [Int32.le_iff_toInt_le] at h1 h2
  have a1 : (-1 : Int) ≤ z.toInt := h1
  have a2 : z.toInt ≤ 7 := h2
  by_cases h : z.toInt = -1
  · exact Or.inl (Int32.toInt_inj.mp h)
  · refine Or.inr ⟨z.toInt.toNat, by omega, Int32.toInt_inj.mp ?_⟩
    rw [show (nI z.toInt.toNat).toInt = (z.toInt.toNat : Int) from Int32.toInt_ofNat_of_lt (by omega)]
    omega
theorem oth_eq {c j : Nat} (hj : j < 10) : cn (fun i => decide (0 ≤ f (6607 + 26 * c + (16 + i)))) 10 = othN f c j 10 + (if 0 ≤ f (6607 + 26 * c + (16 + j)) then 1 else 0) := by
  rw [cn_split (j := j) 10]
  have e : cn (fun i => decide (i ≠ j) && decide (0 ≤ f (6607 + 26 * c + (16 + i)))) 10 = othN f c j 10 := cn_c 10 (fun i hi => by rw [← Bool.decide_and])
  rw [e]
  by_cases h : 0 ≤ f (6607 + 26 * c + (16 + j))
  · rw [if_pos h, if_pos ⟨hj, decide_eq_true h⟩]
  · rw [if_neg h, if_neg (fun h2 => h (of_decide_eq_true h2.2))]
theorem RsC.sec {q c j : Nat} {z : Int32} (h : RsC F A f q c) (hj : j < 10) (hc : c < 16) : RsC F (udA A (q + 2) (upd (A (q + 2)) j z)) (upd f (6607 + 26 * c + (16 + j)) z) q c := by
  obtain ⟨⟨a0, a1, a2⟩, a3, a4⟩ := h
  refine ⟨⟨?_, ?_, ?_⟩, fun j' hj' => ⟨?_, ?_, fun k hk => ?_⟩, fun t ht => ?_⟩
  · rw [upd_ne (by omega)]; exact a0
  · rw [upd_ne (by omega)]; exact a1
  · rw [upd_ne (by omega)]; exact a2
  · rw [udA_ne (by omega), upd_ne (by omega)]; exact (a3 j' hj').1
  · rw [udA_t]
    by_cases e : j' = j
    · subst e; rw [upd_at, upd_at]
    · rw [upd_ne e, upd_ne (by omega)]; exact (a3 j' hj').2.1
  · rw [udA_ne (by omega), upd_ne (by omega)]; exact (a3 j' hj').2.2 k hk
  · rw [udA_ne (by omega), upd_ne (by omega)]; exact a4 t ht
end K
section CALLS
variable {g : aG} {d : Nat} {w : aW} {F A : Nat → Nat → Int32} {L : Nat → Int64} {f : Nat → Int32} {np nm nc nt ns nh v : Nat}
theorem c_doubt {x y z : Int32} (hK : KI F A f np nm v) (hR : RS F A f 6 np nm nc nt ns nh) (hI : IV f np nm nc nt ns nh) (hn : w.1 = N0) : Ev g (d + 4) 125 [.ref 0, .int x, .int y, .int z] (cW w F A L) (caQ w F A (if (okN x nc = true ∧ okN y 10 = true) ∧ ((-1 ≤ z ∧ z ≤ 7) ∧ ¬ othN f (cN x) (cN y) 10 = 4) then upd f (6607 + 26 * cN x + (16 + cN y)) z else f) v (if okN x nc = true ∧ okN y 10 = true then (if -1 ≤ z ∧ z ≤ 7 then 0 else 2) else 1) (some (.int (bI (decide ((okN x nc = true ∧ okN y 10 = true) ∧ ((-1 ≤ z ∧ z ≤ 7) ∧ ¬ othN f (cN x) (cN y) 10 = 4))))))) (caX (cW w F A L) (if okN x nc = true ∧ okN y 10 = true then (if -1 ≤ z ∧ z ≤ 7 then 0 else 2) else 1) 2 0) := by
  have h60 := hI.p60
  have h20 := hI.m20
  have h16 := hI.c16
  have h10 := hI.t10
  have h200 := hI.s200
  have hh200 := hI.h200
  refine ev_X10_doubt ?_ (Nat.le_of_ble_eq_true rfl)
  refine x_lo (lo' := [some (.ref 0), some (.int x), some (.int y), some (.int z), none, none]) rfl ?_
  refine x_al rfl rfl ?_
  refine x_il rfl rfl ?_
  refine x_call2 (c_needCard hR.1.2.2.2.2.2.2.1 (by omega) hn) rfl (Nat.le_of_ble_eq_true rfl) (Or.inl (by first | exact hn | assumption)) (rcv_at (cw_fs (by with_reducible exact sp_0) hn) (by decide) (by decide)) (Nat.le_of_ble_eq_true rfl) (Nat.le_of_ble_eq_true rfl) (fun E w9 hq => ⟨rfl, by obtain ⟨h9, rfl, rfl⟩ := hq; exact ⟨rfl, Or.inl ⟨if_neg (fun h8 => fne h9 h8.1), rfl⟩⟩⟩) ?_
  rintro v9 w9 ⟨h1, rfl, rfl⟩
  refine x_il rfl rfl ?_
  refine x_call1 (c_needFinger hn) rfl (Nat.le_of_ble_eq_true rfl) (Or.inl (by first | exact hn | assumption)) trivial (Nat.le_of_ble_eq_true rfl) (Nat.le_of_ble_eq_true rfl) (fun E w9 hq => ⟨rfl, by obtain ⟨h9, rfl, rfl⟩ := hq; exact ⟨rfl, Or.inl ⟨if_neg (fun h8 => fne h9 h8.2), rfl⟩⟩⟩) ?_
  rintro v9 w9 ⟨h2, rfl, rfl⟩
  refine x_il rfl rfl ?_
  refine x_c rfl ?_
  have no : ¬ (-1 ≤ z ∧ z ≤ 7) → EX g mbOf (Ev g (d + 3)) (infoOf 125) k_X10_doubt (caQ w F A (if (okN x nc = true ∧ okN y 10 = true) ∧ ((-1 ≤ z ∧ z ≤ 7) ∧ ¬ othN f (cN x) (cN y) 10 = 4) then upd f (6607 + 26 * cN x + (16 + cN y)) z else f) v (if okN x nc = true ∧ okN y 10 = true then (if -1 ≤ z ∧ z ≤ 7 then 0 else 2) else 1) (some (.int (bI (decide ((okN x nc = true ∧ okN y 10 = true) ∧ ((-1 ≤ z ∧ z ≤ 7) ∧ ¬ othN f (cN x) (cN y) 10 = 4))))))) (caX (cW w F A L) (if okN x nc = true ∧ okN y 10 = true then (if -1 ≤ z ∧ z ≤ 7 then 0 else 2) else 1) 2 0) w.1 (cW w F A L) 2 12 11 [some (.ref 0), some (.int x), some (.int y), some (.int z), none, none] [] := by
    intro h
    refine x_thr rfl hn rfl (Nat.le_of_ble_eq_true rfl) (Nat.le_of_ble_eq_true rfl) (Nat.le_of_ble_eq_true rfl) ?_
    exact ⟨rfl, Or.inr ⟨by rw [if_pos ⟨h1, h2⟩, if_neg h], rfl⟩⟩
  refine x_iclt rfl (fun c1 => ?_) (fun c1 => ?_)
  · skip
    exact no (fun h => absurd c1 (Int32.not_lt.mpr h.1))
  refine x_il rfl rfl ?_
  refine x_c rfl ?_
  refine x_icle rfl (fun c2 => ?_) (fun c2 => ?_)
  rotate_left
  · skip
    exact no (fun h => c2 h.2)
  have hz : -1 ≤ z ∧ z ≤ 7 := ⟨Int32.not_lt.mp c1, c2⟩
  have hth : (if okN x nc = true ∧ okN y 10 = true then (if -1 ≤ z ∧ z ≤ 7 then (0 : Int32) else 2) else 1) = 0 := by rw [if_pos ⟨h1, h2⟩, if_pos hz]
  rw [hth]
  obtain ⟨c, hc, rfl, ec⟩ := ok_of h1 (by omega)
  obtain ⟨j, hj, rfl, ej⟩ := ok_of h2 (by omega)
  rw [ec, ej]
  have hRC := hR.ca hc
  have hca := hI.ca hc
  have hN := FN.neg (n := 8) (by omega) (hca.2.2.2.1 j hj).2
  have hoe := oth_eq (f := f) (c := c) hj
  have h4 := hca.2.2.2.2
  have eD : cn (fun j => decide (¬ A (561 + 5 * c + 2) j = -1)) 10 = cn (fun i => decide (0 ≤ f (6607 + 26 * c + (16 + i)))) 10 := cn_c 10 (fun i hi => dec_congr (by
    rw [(hRC.2.1 i hi).2.1]
    have hNi := FN.neg (n := 8) (by omega) (hca.2.2.2.1 i hi).2
    exact ⟨fun h => Int32.not_lt.mp (fun h2 => h (hNi.mpr h2)), fun h h2 => absurd (hNi.mp h2) (Int32.not_lt.mpr h)⟩))
  have tail : ∀ uc us : Nat, uc = 2 → us = 12 → EX g mbOf (Ev g (d + 3)) (infoOf 125) k_X10_doubt (caQ w F A (if (okN (nI c) nc = true ∧ okN (nI j) 10 = true) ∧ ((-1 ≤ z ∧ z ≤ 7) ∧ ¬ othN f c j 10 = 4) then upd f (6607 + 26 * c + (16 + j)) z else f) v 0 (some (.int (bI (decide ((okN (nI c) nc = true ∧ okN (nI j) 10 = true) ∧ ((-1 ≤ z ∧ z ≤ 7) ∧ ¬ othN f c j 10 = 4))))))) (caX (cW w F A L) 0 2 0) w.1 (cW w F A L) uc us 34 [some (.ref 0), some (.int (nI c)), some (.int (nI j)), some (.int z), some (.ref (561 + 5 * c)), none] [.int (nI (othN f c j 10))] := by
    rintro _ _ rfl rfl
    refine x_is (lo' := [_, _, _, _, _, _]) rfl (Nat.le_of_ble_eq_true rfl) rfl ?_
    refine x_il rfl rfl ?_
    refine x_c rfl ?_
    refine x_iclt rfl (fun c3 => ?_) (fun c3 => ?_)
    rotate_left
    · refine x_c rfl ?_
      refine x_retz rfl (Nat.le_of_ble_eq_true rfl) (Nat.le_of_ble_eq_true rfl) rfl (by first | rfl | assumption | exact bI_01 _) ?_
      have h8 : othN f c j 10 = 4 := by
        have := Int32.not_lt.mp c3
        have := (nI_leI (a := 4) (by omega) (by omega)).mp this
        omega
      rw [if_neg (fun h => h.2.2 h8)]
      exact ca_ro hK hR hI (by rw [bI_f (fun h => h.2.2 h8)]) rfl
    have h8 : ¬ othN f c j 10 = 4 := fun h => by
      have := (nI_ltI (b := 4) (by omega) (by omega)).mp c3
      omega
    have hCC : (okN (nI c) nc = true ∧ okN (nI j) 10 = true) ∧ ((-1 ≤ z ∧ z ≤ 7) ∧ ¬ othN f c j 10 = 4) := ⟨⟨h1, h2⟩, hz, h8⟩
    rw [if_pos hCC]
    refine x_al rfl rfl ?_
    refine x_getC rfl hn (by with_reducible exact ca_0 (by first | assumption | exact caA (by omega) | exact caB (by assumption) (by omega))) (by exact rfl) ?_
    refine x_il rfl rfl ?_
    refine x_il rfl rfl ?_
    refine x_iasC rfl hn (by with_reducible exact ca_2 (by first | assumption | exact caA (by omega) | exact caB (by assumption) (by omega))) (by omega) ?_
    refine x_c rfl ?_
    refine x_retz rfl (Nat.le_of_ble_eq_true rfl) (Nat.le_of_ble_eq_true rfl) rfl (by first | rfl | assumption | exact bI_01 _) ?_
    have ho : ∀ i, i ≠ 6607 + 26 * c + (16 + j) → upd f (6607 + 26 * c + (16 + j)) z i = f i := fun i hi => upd_ne hi
    refine ca_st (np' := np) (nm' := nm) (nc' := nc) (nt' := nt) (ns' := ns) (nh' := nh) (v' := v) (hR.cards hI (fun i hi => ho i (by omega)) hR.1.2.2.2.2.2.2.1 (fun _ _ => rfl) (fun _ _ _ _ => rfl) (fun q h1 h2 h3 => udA_ne (by omega)) (fun c' hc' => ?_)) (hI.cards (fun i hi => ho i (by omega)) (by rw [ho _ (by omega)]; exact hI.1.2.2.1.1) h16 (Nat.le_refl _) (fun c' hc' => ?_) (fun k c' j' h1 h2 h3 h4 => by rw [ho _ (by omega)]; exact hI.2.2.2.2.2.1.2 k c' j' h1 h2 h3 h4)) ((hK.cong (f' := upd f (6607 + 26 * c + (16 + j)) z) (np' := np) (nm' := nm) (samL_c (fun i hi => ho i (by omega)) h60 h20) hI.wp h60 h20 (Nat.le_refl _) (Nat.le_refl _)).keepC rfl (udA_ne (by omega))) (Nat.le_succ _) (fun q hq => ⟨rfl, udA_ne (by omega)⟩) (by rw [bI_t hCC]) rfl
    · by_cases e : c' = c
      · subst e; exact hRC.sec hj (by omega)
      · exact (hR.ca hc').oth (q := 0) (q1 := 0) e (by omega) (show c < 16 by omega) (fun q hq => ⟨rfl, udA_ne (by omega)⟩) (fun i h1 h2 => ho i (by omega))
    · obtain ⟨b1, b2, b3, b4, b5⟩ := hI.ca hc'
      refine ⟨by rw [ho _ (by omega)]; exact b1, by rw [ho _ (by omega)]; exact b2, fun t ht => by rw [ho _ (by omega)]; exact b3 t ht, fun j' hj' => ⟨by rw [ho _ (by omega)]; exact (b4 j' hj').1, ?_⟩, ?_⟩
      · by_cases e : 6607 + 26 * c' + (16 + j') = 6607 + 26 * c + (16 + j)
        · rw [e, upd_at]; exact z_rng hz.1 hz.2
        · rw [ho _ e]; exact (b4 j' hj').2
      · by_cases e : c' = c
        · subst e
          rw [oth_eq hj]
          have e9 : othN (upd f (6607 + 26 * c' + (16 + j)) z) c' j 10 = othN f c' j 10 := cn_c 10 (fun i hi => dec_congr (by
            by_cases e2 : i = j
            · subst e2; exact ⟨fun h => absurd rfl h.1, fun h => absurd rfl h.1⟩
            · rw [ho _ (by omega)]))
          rw [e9]
          split <;> omega
        · rw [cn_c (P' := fun j => decide (0 ≤ f (6607 + 26 * c' + (16 + j)))) 10 (fun j' hj' => by rw [ho _ (by omega)])]
          exact b5
  refine x_al rfl rfl ?_
  refine x_getC rfl hn (by with_reducible exact sp_0) (by exact rfl) ?_
  refine x_getC rfl hn (by with_reducible exact (by first | exact sp_6 | exact st_0 (by assumption))) (by exact rfl) ?_
  refine x_il rfl rfl ?_
  refine x_aaC rfl hn (by with_reducible exact sp_9) (by decide) (by omega) ?_
  refine x_as (lo' := [_, _, _, _, _, _]) rfl (Nat.le_of_ble_eq_true rfl) rfl ?_
  refine x_al rfl rfl ?_
  refine x_call1 (c_doubtful (caA (by omega)) hn) rfl (Nat.le_of_ble_eq_true rfl) (Or.inl (by first | exact hn | assumption)) (rcv_at (cw_fs (by with_reducible exact ca_0 (by first | assumption | exact caA (by omega) | exact caB (by assumption) (by omega))) hn) (by decide) (by decide)) (Nat.le_of_ble_eq_true rfl) (Nat.le_of_ble_eq_true rfl) (fun E w9 hq => hq.elim) ?_
  rintro v9 w9 ⟨rfl, rfl⟩
  refine x_al rfl rfl ?_
  refine x_getC rfl hn (by with_reducible exact ca_0 (by first | assumption | exact caA (by omega) | exact caB (by assumption) (by omega))) (by exact rfl) ?_
  refine x_il rfl rfl ?_
  refine x_iaC rfl hn (by with_reducible exact ca_2 (by first | assumption | exact caA (by omega) | exact caB (by assumption) (by omega))) (by omega) ?_
  refine x_c rfl ?_
  rw [(hRC.2.1 j hj).2.1, eD, hoe]
  refine x_icne rfl (fun c3 => ?_) (fun c3 => ?_)
  rotate_left
  · refine x_c rfl ?_
    refine x_go rfl ?_
    have c3 := hN.mp c3
    rw [if_neg (Int32.not_le.mpr c3), Nat.add_zero]
    first | refine x_subN (y := 0) rfl (by omega) ?_ | refine x_sub rfl ?_
    exact tail _ _ rfl rfl
  refine x_c rfl ?_
  rw [if_pos (Int32.not_lt.mp (fun h => c3 (hN.mpr h)))]
  first | refine x_subN (y := 1) rfl (by omega) ?_ | refine x_sub rfl ?_
  exact tail _ _ rfl rfl
end CALLS
