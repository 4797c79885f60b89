/-! finger, doubt, say; cw_ -/
section K
variable {F A F' A' : Nat → Nat → Int32} {f f' : Nat → Int32} {np nm nc nt ns nh v : Nat}
/-- only sayings changed -/
theorem RS.say {ns' : Nat} (hR : RS F A f 6 np nm nc nt ns nh) (hI : IV f np nm nc nt ns nh) (hf : ∀ i, (i < 10223 ∨ 11424 ≤ i) → f' i = f i) (hF : ∀ q, 6 ≤ q → q < 701 → q ≠ 17 → F' q = F q) (hA : ∀ q, 6 ≤ q → q < 701 → q ≠ 18 → A' q = A q) (hS : RsTab F' A' 17 6 10224 f' ns') : RS F' A' f' 6 np nm nc nt ns' nh := by
  have h60' := hI.p60; have h20 := hI.m20; have h10 := hI.t10; have h16 := hI.c16; have hh200 := hI.h200
  obtain ⟨r0, r1, r2, r3, r4, r5, r6, r7⟩ := hR.1
  have e6 : F' 6 = F 6 := hF 6 (by omega) (by omega) (by omega)
  refine ⟨⟨?_, ?_, ?_, ?_, ?_, ?_, ?_, ?_⟩, fun p hp => ?_, fun k hk => ?_, fun c hc => ?_, fun t ht => ?_, ?_, hS, ?_⟩
  · rw [e6, hf 0 (by omega)]; exact r0
  · rw [e6, hf 1 (by omega)]; exact r1
  · rw [e6, hf 2 (by omega)]; exact r2
  · rw [e6, hf 3 (by omega)]; exact r3
  · rw [e6]; exact r4
  · rw [e6]; exact r5
  · rw [e6]; exact r6
  · rw [e6]; exact r7
  · exact ((hR.pr hp).keep (fun r h1 h2 => ⟨hF r (by omega) (by omega) (by omega), hA r (by omega) (by omega) (by omega)⟩)).cong (wp_p hI.wp (by omega)) (fun i h1 h2 => hf i (by omega))
  · exact ((hR.ma hk).keep (fun r h1 h2 => ⟨hF r (by omega) (by omega) (by omega), hA r (by omega) (by omega) (by omega)⟩)).cong (wp_m hI.wp (by omega)) (fun i h1 h2 => hf i (by omega))
  · exact ((hR.ca hc).keep (fun r h1 h2 => ⟨hF r (by omega) (by omega) (by omega), hA r (by omega) (by omega) (by omega)⟩)).cong (fun i h1 h2 => hf i (by omega)) (fun k j h1 h2 => by rw [hf _ (by omega)])
  · obtain ⟨r, hr⟩ := hR.tx ht
    exact ⟨r, TxS_c (fun i hi => hf i (by omega)) (hr.keep (fun r h1 h2 => ⟨hF r (by omega) (by omega) (by omega), hA r (by omega) (by omega) (by omega)⟩))⟩
  · show F' 11 1 = 0
    rw [hF 11 (by omega) (by omega) (by omega)]; exact hR.no
  · exact (hR.hi.keep (hF 19 (by omega) (by omega) (by omega)) (hA 20 (by omega) (by omega) (by omega))).cong (fun i h1 h2 => hf i (by omega))
theorem IV.say {ns' : Nat} (hI : IV f np nm nc nt ns nh) (hf : ∀ i, (i < 10223 ∨ 11424 ≤ i) → f' i = f i) (hs' : f' 10223 = nI ns' ∧ ns' ≤ 200) (hS : ∀ r, r < ns' → SaI f' r nm nc) : IV f' np nm nc nt ns' nh := by
  have h60' := hI.p60; have h20 := hI.m20; have h10 := hI.t10; have h16 := hI.c16; have hh200 := hI.h200
  obtain ⟨⟨c1, c2, c3, c4, c5, c6⟩, ⟨n1, n2⟩, hW, ⟨hp1, hp2⟩, ⟨hm1, hm2⟩, ⟨hc1, hc2⟩, ht, _⟩ := hI
  refine ⟨⟨?_, ?_, ?_, ?_, hs', ?_⟩, ⟨?_, ?_⟩, WP_c (fun i h1 h2 => hf i (by omega)) hW, ⟨fun p hp => ?_, fun p h1 h2 => ?_⟩, ⟨fun k hk => ?_, fun k h1 h2 => ?_⟩, ⟨fun c hc => ?_, fun k c j h1 h2 h3 h4 => ?_⟩, fun t htn => ?_, hS⟩
  · rw [hf 4 (by omega)]; exact c1
  · rw [hf 5825 (by omega)]; exact c2
  · rw [hf 6606 (by omega)]; exact c3
  · rw [hf 12825 (by omega)]; exact c4
  · rw [hf 11424 (by omega)]; exact c6
  · rw [hf 0 (by omega)]; exact n1
  · rw [hf 2 (by omega)]; exact n2
  · exact CeR_c (fun i h1 h2 => hf i (by omega)) (hp1 p hp)
  · rw [hf _ (by omega)]; exact hp2 p h1 h2
  · rw [hf _ (by omega), hf _ (by omega)]; exact hm1 k hk
  · rw [hf _ (by omega)]; exact hm2 k h1 h2
  · obtain ⟨a1, a2, a3, a4, a5⟩ := hc1 c hc
    refine ⟨by rw [hf _ (by omega)]; exact a1, by rw [hf _ (by omega)]; exact a2, fun t ht => by rw [hf _ (by omega)]; exact a3 t ht, fun j hj => by rw [hf _ (by omega), hf _ (by omega)]; exact a4 j hj, ?_⟩
    rw [cn_c (P' := fun j => decide (0 ≤ f (6607 + 26 * c + (16 + j)))) 10 (fun j hj => by rw [hf _ (by omega)])]
    exact a5
  · rw [hf _ (by omega)]; exact hc2 k c j h1 h2 h3 h4
  · rw [hf _ (by omega)]; exact ht t htn
theorem fingF_o {c j i : Nat} {x : Int32} (hj : j < 10) (h1 : i ≠ 6607 + 26 * c + (6 + j)) (h2 : ∀ k, k < 20 → i ≠ 7023 + 10 * (16 * k + c) + j) : fingF f c j x i = f i := by
  unfold fingF
  rw [clrC_at hj 20 i (Nat.le_refl _), if_neg (fun ⟨k, hk, e⟩ => h2 k hk e), upd_ne h1]
theorem fingF_p {c j : Nat} {x : Int32} (hj : j < 10) (hc : c < 16) : fingF f c j x (6607 + 26 * c + (6 + j)) = x := by
  unfold fingF
  rw [clrC_at hj 20 _ (Nat.le_refl _), if_neg (fun ⟨k, hk, e⟩ => by omega), upd_at]
theorem fingF_z {c j k : Nat} {x : Int32} (hj : j < 10) (hk : k < 20) : fingF f c j x (7023 + 10 * (16 * k + c) + j) = 0 := by
  unfold fingF
  rw [clrC_at hj 20 _ (Nat.le_refl _), if_pos ⟨k, hk, rfl⟩]
theorem cn_split {P : Nat → Bool} {j : Nat} : ∀ n, cn P n = cn (fun i => decide (i ≠ j) && P i) n + (if j < n ∧ P j = true then 1 else 0) := by
  intro n
  induction n with
  | zero => rw [if_neg (fun h => by omega)]; rfl
  | succ n ih =>
    show cn P n + (if P n = true then 1 else 0) = cn (fun i => decide (i ≠ j) && P i) n + (if (decide (n ≠ j) && P n) = true then 1 else 0) + _
    rw [ih]
    by_cases e : n = j
    · subst e
      rw [if_neg (fun h => absurd h.1 (Nat.lt_irrefl _)), if_neg (show ¬ (decide (n ≠ n) && P n) = true by simp)]
      by_cases hp : P n = true
      · rw [if_pos hp, if_pos ⟨Nat.lt_succ_self _, hp⟩]
      · rw [if_neg hp, if_neg (fun h => hp h.2)]
    · rw [show (decide (n ≠ j) && P n) = P n by rw [decide_eq_true e, Bool.true_and]]
      by_cases h : j < n ∧ P j = true
      · rw [if_pos h, if_pos (show j < n + 1 ∧ P j = true from ⟨by omega, h.2⟩)]; omega
      · rw [if_neg h, if_neg (show ¬ (j < n + 1 ∧ P j = true) from fun h2 => h ⟨by omega, h2.2⟩)]; omega
end K
section CALLS
variable {g : aG} {d : Nat} {w : aW} {F A : Nat → Nat → Int32} {L : Nat → Int64} {f : Nat → Int32} {np nm nc nt ns nh v : Nat}
theorem c_finger {x y z : Int32} (hK : KI F A f np nm v) (hR : RS F A f 6 np nm nc nt ns nh) (hI : IV f np nm nc nt ns nh) (hn : w.1 = N0) : Ev g (d + 4) 124 [.ref 0, .int x, .int y, .int z] (cW w F A L) (caQ w F A (if fgP x y z nc np ∧ ¬ f (6607 + 26 * cN x + (6 + cN y)) = z then fingF f (cN x) (cN y) z else f) v (if fgP x y z nc np then 0 else 1) (some (.int (bI (decide (fgP x y z nc np ∧ ¬ f (6607 + 26 * cN x + (6 + cN y)) = z)))))) (caX (cW w F A L) (if fgP x y z nc np then 0 else 1) 2 2) := by
  have h60 := hI.p60
  have h20 := hI.m20
  have h16 := hI.c16
  have h10 := hI.t10
  have h200 := hI.s200
  have hh200 := hI.h200
  refine ev_X10_finger ?_ (Nat.le_of_ble_eq_true rfl)
  refine x_lo (lo' := [some (.ref 0), some (.int x), some (.int y), some (.int z), none]) rfl ?_
  refine x_al rfl rfl ?_
  refine x_il rfl rfl ?_
  refine x_call2 (c_needCard hR.1.2.2.2.2.2.2.1 (by omega) hn) rfl (Nat.le_of_ble_eq_true rfl) (Or.inl (by first | exact hn | assumption)) (rcv_at (cw_fs (by with_reducible exact sp_0) hn) (by decide) (by decide)) (Nat.le_of_ble_eq_true rfl) (Nat.le_of_ble_eq_true rfl) (fun E w9 hq => ⟨rfl, by obtain ⟨h9, rfl, rfl⟩ := hq; exact ⟨rfl, Or.inl ⟨if_neg (fun h8 => fne h9 h8.1), rfl⟩⟩⟩) ?_
  rintro v9 w9 ⟨h1, rfl, rfl⟩
  refine x_il rfl rfl ?_
  refine x_call1 (c_needFinger hn) rfl (Nat.le_of_ble_eq_true rfl) (Or.inl (by first | exact hn | assumption)) trivial (Nat.le_of_ble_eq_true rfl) (Nat.le_of_ble_eq_true rfl) (fun E w9 hq => ⟨rfl, by obtain ⟨h9, rfl, rfl⟩ := hq; exact ⟨rfl, Or.inl ⟨if_neg (fun h8 => fne h9 h8.2.1), rfl⟩⟩⟩) ?_
  rintro v9 w9 ⟨h2, rfl, rfl⟩
  refine x_il rfl rfl ?_
  refine x_c rfl ?_
  have main : ∀ uc us, (uc = 2 ∧ us = 12 ∨ uc = 3 ∧ us = 18) → (z = -1 ∨ okN z np = true) → EX g mbOf (Ev g (d + 3)) (infoOf 124) k_X10_finger (caQ w F A (if fgP x y z nc np ∧ ¬ f (6607 + 26 * cN x + (6 + cN y)) = z then fingF f (cN x) (cN y) z else f) v (if fgP x y z nc np then 0 else 1) (some (.int (bI (decide (fgP x y z nc np ∧ ¬ f (6607 + 26 * cN x + (6 + cN y)) = z)))))) (caX (cW w F A L) (if fgP x y z nc np then 0 else 1) 2 2) w.1 (cW w F A L) uc us 11 [some (.ref 0), some (.int x), some (.int y), some (.int z), none] [] := by
    intro uc us huc hz
    have hP : fgP x y z nc np := ⟨h1, h2, hz⟩
    rw [if_pos hP]
    obtain ⟨c, hc, rfl, ec⟩ := ok_of h1 (by omega)
    obtain ⟨j, hj, rfl, ej⟩ := ok_of h2 (by omega)
    rw [ec, ej]
    obtain ⟨⟨a0, a1, a2⟩, a3, a4⟩ := hR.ca hc
    refine x_al rfl rfl ?_
    refine x_getC rfl hn (by with_reducible exact sp_0) (by exact rfl) ?_
    refine x_getC rfl hn (by with_reducible exact (by first | exact sp_6 | exact st_0 (by assumption))) (by exact rfl) ?_
    refine x_il rfl rfl ?_
    refine x_aaC rfl hn (by with_reducible exact sp_9) (by decide) (by omega) ?_
    refine x_as (lo' := [_, _, _, _, _]) rfl (Nat.le_of_ble_eq_true rfl) rfl ?_
    refine x_al rfl rfl ?_
    refine x_getC rfl hn (by with_reducible exact ca_0 (by first | assumption | exact caA (by omega) | exact caB (by assumption) (by omega))) (by exact rfl) ?_
    refine x_il rfl rfl ?_
    refine x_iaC rfl hn (by with_reducible exact ca_1 (by first | assumption | exact caA (by omega) | exact caB (by assumption) (by omega))) (by omega) ?_
    refine x_il rfl rfl ?_
    rw [(a3 j hj).1]
    refine x_icne rfl (fun c1 => ?_) (fun c1 => ?_)
    rotate_left
    · refine x_c rfl ?_
      rw [if_neg (fun h => h.2 c1)]
      refine x_retz rfl (by show uc ≤ 3; omega) (by show us ≤ 18; omega) rfl rfl ?_
      exact ca_ro hK hR hI (by rw [bI_f (fun h => h.2 c1)]) rfl
    refine x_al rfl rfl ?_
    refine x_getC rfl hn (by with_reducible exact ca_0 (by first | assumption | exact caA (by omega) | exact caB (by assumption) (by omega))) (by exact rfl) ?_
    refine x_il rfl rfl ?_
    refine x_il rfl rfl ?_
    refine x_iasC rfl hn (by with_reducible exact ca_1 (by first | assumption | exact caA (by omega) | exact caB (by assumption) (by omega))) (by omega) ?_
    refine x_al rfl rfl ?_
    refine x_getC rfl hn (by with_reducible exact ca_0 (by first | assumption | exact caA (by omega) | exact caB (by assumption) (by omega))) (by exact rfl) ?_
    refine x_il rfl rfl ?_
    refine x_c rfl ?_
    refine x_iasC rfl hn (by with_reducible exact ca_3 (by first | assumption | exact caA (by omega) | exact caB (by assumption) (by omega))) (by omega) ?_
    refine x_c rfl ?_
    refine x_retz rfl (by show uc ≤ 3; omega) (by show us ≤ 18; omega) rfl rfl ?_
    rw [if_pos ⟨hP, c1⟩]
    have hFN : z = -1 ∨ ∃ p, p < np ∧ z = nI p := hz.elim Or.inl (fun h => by
      obtain ⟨p, hp, e, _⟩ := ok_of h (by omega)
      exact Or.inr ⟨p, hp, e⟩)
    have ho : ∀ i, (i < 6607 ∨ 10223 ≤ i) → fingF f c j z i = f i := fun i hi => fingF_o hj (by omega) (fun k hk => by omega)
    have hAo : ∀ q, q ≠ 561 + 5 * c + 1 → q ≠ 561 + 5 * c + 3 → udA (udA A (561 + 5 * c + 1) (upd (A (561 + 5 * c + 1)) j z)) (561 + 5 * c + 3) (upd (udA A (561 + 5 * c + 1) (upd (A (561 + 5 * c + 1)) j z) (561 + 5 * c + 3)) j 0) q = A q := fun q h1 h2 => by rw [udA_ne h2, udA_ne h1]
    refine ca_st (np' := np) (nm' := nm) (nc' := nc) (nt' := nt) (ns' := ns) (nh' := nh) (v' := v) (hR.cards hI (fun i hi => ho i (by omega)) hR.1.2.2.2.2.2.2.1 (fun _ _ => rfl) (fun _ _ _ _ => rfl) (fun q h1 h2 h3 => hAo q (by omega) (by omega)) (fun c' hc' => ?_)) (hI.cards (fun i hi => ho i (by omega)) (by rw [ho _ (by omega)]; exact hI.1.2.2.1.1) h16 (Nat.le_refl _) (fun c' hc' => ?_) (fun k c' j' h1 h2 h3 h4 => by rw [fingF_o hj (by omega) (fun k hk => by omega)]; exact hI.2.2.2.2.2.1.2 k c' j' h1 h2 h3 h4)) ((hK.cong (f' := fingF f c j z) (np' := np) (nm' := nm) (samL_c (fun i hi => ho i (by omega)) h60 h20) hI.wp h60 h20 (Nat.le_refl _) (Nat.le_refl _)).keepC rfl (hAo _ (by omega) (by omega))) (Nat.le_succ _) (fun q hq => ⟨rfl, hAo q (by omega) (by omega)⟩) (by rw [bI_t ⟨hP, c1⟩]) rfl
    · by_cases e : c' = c
      · subst e
        refine ⟨⟨?_, ?_, ?_⟩, fun j' hj' => ⟨?_, ?_, fun k hk => ?_⟩, fun t ht => ?_⟩
        · rw [fingF_o hj (by omega) (fun k hk => by omega)]; exact a0
        · rw [fingF_o hj (by omega) (fun k hk => by omega)]; exact a1
        · rw [fingF_o hj (by omega) (fun k hk => by omega)]; exact a2
        · rw [udA_ne (by omega), udA_t]
          by_cases e2 : j' = j
          · subst e2; rw [upd_at, fingF_p hj (by omega)]
          · rw [upd_ne e2, fingF_o hj (by omega) (fun k hk => by omega)]; exact (a3 j' hj').1
        · rw [hAo _ (by omega) (by omega), fingF_o hj (by omega) (fun k hk => by omega)]; exact (a3 j' hj').2.1
        · rw [udA_t, udA_ne (by omega)]
          by_cases e2 : j' = j
          · subst e2; rw [upd_at, fingF_z hj hk, bt_0, decide_eq_false (fun h => h rfl)]
          · rw [upd_ne e2, fingF_o hj (by omega) (fun k hk => by omega)]; exact (a3 j' hj').2.2 k hk
        · rw [hAo _ (by omega) (by omega), fingF_o hj (by omega) (fun k hk => by omega)]; exact a4 t ht
      · exact (hR.ca hc').oth (q := 0) (q1 := 0) e (by omega) (show c < 16 by omega) (fun q hq => ⟨rfl, hAo q (by omega) (by omega)⟩) (fun i h1 h2 => fingF_o hj (by omega) (fun k hk => h2 k j hk hj))
    · obtain ⟨b1, b2, b3, b4, b5⟩ := hI.ca hc'
      refine ⟨by rw [fingF_o hj (by omega) (fun k hk => by omega)]; exact b1, by rw [fingF_o hj (by omega) (fun k hk => by omega)]; exact b2, fun t ht => by rw [fingF_o hj (by omega) (fun k hk => by omega)]; exact b3 t ht, fun j' hj' => ⟨?_, by rw [fingF_o hj (by omega) (fun k hk => by omega)]; exact (b4 j' hj').2⟩, ?_⟩
      · by_cases e : 6607 + 26 * c' + (6 + j') = 6607 + 26 * c + (6 + j)
        · rw [e, fingF_p hj (by omega)]; exact hFN
        · rw [fingF_o hj e (fun k hk => by omega)]; exact (b4 j' hj').1
      · rw [cn_c (P' := fun j => decide (0 ≤ f (6607 + 26 * c' + (16 + j)))) 10 (fun j' hj' => by rw [fingF_o hj (by omega) (fun k hk => by omega)])]
        exact b5
  refine x_iceq rfl (fun c1 => ?_) (fun c1 => ?_)
  · skip
    exact main 2 12 (Or.inl ⟨rfl, rfl⟩) (Or.inl c1)
  refine x_al rfl rfl ?_
  refine x_il rfl rfl ?_
  refine x_call2 (c_needPrint hR.1.2.2.2.2.1 (by omega) hn) rfl (Nat.le_of_ble_eq_true rfl) (Or.inl (by first | exact hn | assumption)) (rcv_at (cw_fs (by with_reducible exact sp_0) hn) (by decide) (by decide)) (Nat.le_of_ble_eq_true rfl) (Nat.le_of_ble_eq_true rfl) (fun E w9 hq => ⟨rfl, by obtain ⟨h9, rfl, rfl⟩ := hq; exact ⟨rfl, Or.inl ⟨if_neg (fun h8 => (h8.2.2.elim c1 (fne h9))), rfl⟩⟩⟩) ?_
  rintro v9 w9 ⟨h3, rfl, rfl⟩
  exact main 3 18 (Or.inr ⟨rfl, rfl⟩) (Or.inr h3)
end CALLS
