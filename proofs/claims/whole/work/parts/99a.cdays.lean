/-! strikes and days; cw_ -/
section K
variable {F A F' A' : Nat → Nat → Int32} {f f' : Nat → Int32} {np nm nc nt ns nh v : Nat}
/-- only cards changed -/
theorem RS.cards {nc' : Nat} (hR : RS F A f 6 np nm nc nt ns nh) (hI : IV f np nm nc nt ns nh) (hf : ∀ i, (i < 6606 ∨ 10223 ≤ i) → f' i = f i) (h6 : F' 6 6 = nI nc') (h60 : ∀ k, k ≠ 6 → F' 6 k = F 6 k) (hF : ∀ q, 7 ≤ q → q < 701 → (q < 561 ∨ 641 ≤ q) → F' q = F q) (hA : ∀ q, 6 ≤ q → q < 701 → (q < 561 ∨ 641 ≤ q) → A' q = A q) (hC : ∀ c, c < nc' → RsC F' A' f' (561 + 5 * c) c) : RS F' A' f' 6 np nm nc' nt ns nh := by
  have h60' := hI.p60; have h20 := hI.m20; have h10 := hI.t10; have h200 := hI.s200; have hh200 := hI.h200
  obtain ⟨r0, r1, r2, r3, r4, r5, r6, r7⟩ := hR.1
  refine ⟨⟨?_, ?_, ?_, ?_, ?_, ?_, h6, ?_⟩, fun p hp => ?_, fun k hk => ?_, hC, fun t ht => ?_, ?_, ?_, ?_⟩
  · rw [h60 0 (by decide), hf 0 (by omega)]; exact r0
  · rw [h60 1 (by decide), hf 1 (by omega)]; exact r1
  · rw [h60 2 (by decide), hf 2 (by omega)]; exact r2
  · rw [h60 3 (by decide), hf 3 (by omega)]; exact r3
  · rw [h60 4 (by decide)]; exact r4
  · rw [h60 5 (by decide)]; exact r5
  · rw [h60 7 (by decide)]; exact r7
  · exact ((hR.pr hp).keep (fun r h1 h2 => ⟨hF r (by omega) (by omega) (by omega), hA r (by omega) (by omega) (by omega)⟩)).cong (wp_p hI.wp (by omega)) (fun i h1 h2 => hf i (by omega))
  · exact ((hR.ma hk).keep (fun r h1 h2 => ⟨hF r (by omega) (by omega) (by omega), hA r (by omega) (by omega) (by omega)⟩)).cong (wp_m hI.wp (by omega)) (fun i h1 h2 => hf i (by omega))
  · obtain ⟨r, hr⟩ := hR.tx ht
    exact ⟨r, TxS_c (fun i hi => hf i (by omega)) (hr.keep (fun r h1 h2 => ⟨hF r (by omega) (by omega) (by omega), hA r (by omega) (by omega) (by omega)⟩))⟩
  · show F' 11 1 = 0
    rw [hF 11 (by omega) (by omega) (by omega)]; exact hR.no
  · exact (hR.sa.keep (hF 17 (by omega) (by omega) (by omega)) (hA 18 (by omega) (by omega) (by omega))).cong (fun i h1 h2 => hf i (by omega))
  · exact (hR.hi.keep (hF 19 (by omega) (by omega) (by omega)) (hA 20 (by omega) (by omega) (by omega))).cong (fun i h1 h2 => hf i (by omega))
theorem IV.cards {nc' : Nat} (hI : IV f np nm nc nt ns nh) (hf : ∀ i, (i < 6606 ∨ 10223 ≤ i) → f' i = f i) (hc : f' 6606 = nI nc') (h16 : nc' ≤ 16) (hle : nc ≤ nc') (hC : ∀ c, c < nc' → CaI f' c np) (hz : ∀ k c j, k < 20 → nc' ≤ c → c < 16 → j < 10 → f' (7023 + 10 * (16 * k + c) + j) = 0) : IV f' np nm nc' nt ns nh := by
  have h60' := hI.p60; have h20 := hI.m20; have h10 := hI.t10; have h200 := hI.s200
  obtain ⟨⟨c1, c2, c3, c4, c5, c6⟩, ⟨n1, n2⟩, hW, ⟨hp1, hp2⟩, ⟨hm1, hm2⟩, ⟨hc1, hc2⟩, ht, hs⟩ := hI
  refine ⟨⟨?_, ?_, ⟨hc, h16⟩, ?_, ?_, ?_⟩, ⟨?_, ?_⟩, WP_c (fun i h1 h2 => hf i (by omega)) hW, ⟨fun p hp => ?_, fun p h1 h2 => ?_⟩, ⟨fun k hk => ?_, fun k h1 h2 => ?_⟩, ⟨hC, hz⟩, fun t htn => ?_, fun r hr => ?_⟩
  · rw [hf 4 (by omega)]; exact c1
  · rw [hf 5825 (by omega)]; exact c2
  · rw [hf 12825 (by omega)]; exact c4
  · rw [hf 10223 (by omega)]; exact c5
  · rw [hf 11424 (by omega)]; exact c6
  · rw [hf 0 (by omega)]; exact n1
  · rw [hf 2 (by omega)]; exact n2
  · exact CeR_c (fun i h1 h2 => hf i (by omega)) (hp1 p hp)
  · rw [hf _ (by omega)]; exact hp2 p h1 h2
  · rw [hf _ (by omega), hf _ (by omega)]; exact hm1 k hk
  · rw [hf _ (by omega)]; exact hm2 k h1 h2
  · rw [hf _ (by omega)]; exact ht t htn
  · have := hs r hr
    unfold SaI at this ⊢
    rw [hf (10224 + 6 * r) (by omega), hf (10224 + 6 * r + 1) (by omega), hf (10224 + 6 * r + 2) (by omega), hf (10224 + 6 * r + 3) (by omega), hf (10224 + 6 * r + 4) (by omega), hf (10224 + 6 * r + 5) (by omega)]
    obtain ⟨a1, a2, ⟨c, hcc, ec⟩, a4⟩ := this
    exact ⟨a1, a2, ⟨c, by omega, ec⟩, a4⟩
/-- only numbers 0 to 3 changed -/
theorem IV.low (hI : IV f np nm nc nt ns nh) (hf : ∀ i, 4 ≤ i → f' i = f i) (h0 : ∃ v, v ≤ 2000 ∧ f' 0 = nI v) (h2 : ∃ v, v ≤ 60 ∧ f' 2 = nI v) : IV f' np nm nc nt ns nh := by
  have h60' := hI.p60; have h20 := hI.m20; have h10 := hI.t10; have h200 := hI.s200
  obtain ⟨⟨c1, c2, c3, c4, c5, c6⟩, _, hW, ⟨hp1, hp2⟩, ⟨hm1, hm2⟩, ⟨hc1, hc2⟩, ht, hs⟩ := hI
  refine ⟨⟨?_, ?_, ?_, ?_, ?_, ?_⟩, ⟨h0, h2⟩, WP_c (fun i h1 h2 => hf i (by omega)) hW, ⟨fun p hp => ?_, fun p h1 h2 => ?_⟩, ⟨fun k hk => ?_, fun k h1 h2 => ?_⟩, ⟨fun c hc => ?_, fun k c j h1 h2 h3 h4 => ?_⟩, fun t htn => ?_, fun r hr => ?_⟩
  · rw [hf 4 (by omega)]; exact c1
  · rw [hf 5825 (by omega)]; exact c2
  · rw [hf 6606 (by omega)]; exact c3
  · rw [hf 12825 (by omega)]; exact c4
  · rw [hf 10223 (by omega)]; exact c5
  · rw [hf 11424 (by omega)]; exact c6
  · exact CeR_c (fun i h1 h2 => hf i (by omega)) (hp1 p hp)
  · rw [hf _ (by omega)]; exact hp2 p h1 h2
  · rw [hf _ (by omega), hf _ (by omega)]; exact hm1 k hk
  · rw [hf _ (by omega)]; exact hm2 k h1 h2
  · obtain ⟨a1, a2, a3, a4, a5⟩ := hc1 c hc
    refine ⟨by rw [hf _ (by omega)]; exact a1, by rw [hf _ (by omega)]; exact a2, fun t ht => by rw [hf _ (by omega)]; exact a3 t ht, fun j hj => by rw [hf _ (by omega), hf _ (by omega)]; exact a4 j hj, ?_⟩
    rw [cn_c (P' := fun j => decide (0 ≤ f (6607 + 26 * c + (16 + j)))) 10 (fun j hj => by rw [hf _ (by omega)])]
    exact a5
  · rw [hf _ (by omega)]; exact hc2 k c j h1 h2 h3 h4
  · rw [hf _ (by omega)]; exact ht t htn
  · have := hs r hr
    unfold SaI at this ⊢
    rw [hf (10224 + 6 * r) (by omega), hf (10224 + 6 * r + 1) (by omega), hf (10224 + 6 * r + 2) (by omega), hf (10224 + 6 * r + 3) (by omega), hf (10224 + 6 * r + 4) (by omega), hf (10224 + 6 * r + 5) (by omega)]
    exact this
theorem RS.num {i : Nat} {x : Int32} (hR : RS F A f 6 np nm nc nt ns nh) (hI : IV f np nm nc nt ns nh) (hi : i < 3) : RS (udA F 6 (upd (F 6) i x)) A (upd f i x) 6 np nm nc nt ns nh := by
  have h60' := hI.p60; have h20 := hI.m20; have h10 := hI.t10; have h200 := hI.s200; have h16 := hI.c16
  have hf : ∀ j, 4 ≤ j → upd f i x j = f j := fun j hj => upd_ne (by omega)
  obtain ⟨r0, r1, r2, r3, r4, r5, r6, r7⟩ := hR.1
  refine ⟨⟨?_, ?_, ?_, ?_, ?_, ?_, ?_, ?_⟩, fun p hp => ?_, fun k hk => ?_, fun c hc => ?_, fun t ht => ?_, ?_, ?_, ?_⟩
  · rw [udA_t]; unfold upd; by_cases e : 0 = i
    · rw [if_pos e, if_pos e]
    · rw [if_neg e, if_neg e]; exact r0
  · rw [udA_t]; unfold upd; by_cases e : 1 = i
    · rw [if_pos e, if_pos e]
    · rw [if_neg e, if_neg e]; exact r1
  · rw [udA_t]; unfold upd; by_cases e : 2 = i
    · rw [if_pos e, if_pos e]
    · rw [if_neg e, if_neg e]; exact r2
  · rw [udA_t, upd_ne (by omega), upd_ne (by omega)]; exact r3
  · rw [udA_t, upd_ne (by omega)]; exact r4
  · rw [udA_t, upd_ne (by omega)]; exact r5
  · rw [udA_t, upd_ne (by omega)]; exact r6
  · rw [udA_t, upd_ne (by omega)]; exact r7
  · exact ((hR.pr hp).keep (fun r h1 h2 => ⟨udA_ne (by omega), rfl⟩)).cong (wp_p hI.wp (by omega)) (fun i h1 h2 => hf i (by omega))
  · exact ((hR.ma hk).keep (fun r h1 h2 => ⟨udA_ne (by omega), rfl⟩)).cong (wp_m hI.wp (by omega)) (fun i h1 h2 => hf i (by omega))
  · exact ((hR.ca hc).keep (fun r h1 h2 => ⟨udA_ne (by omega), rfl⟩)).cong (fun i h1 h2 => hf i (by omega)) (fun k j h1 h2 => by rw [hf _ (by omega)])
  · obtain ⟨r, hr⟩ := hR.tx ht
    exact ⟨r, TxS_c (fun i hi => hf i (by omega)) (hr.keep (fun r h1 h2 => ⟨udA_ne (by omega), rfl⟩))⟩
  · exact hR.no
  · exact (hR.sa.keep rfl rfl).cong (fun i h1 h2 => hf i (by omega))
  · exact (hR.hi.keep rfl rfl).cong (fun i h1 h2 => hf i (by omega))
theorem RsC.num {q c i : Nat} {x : Int32} (h : RsC F A f q c) (hi : i < 3) (hc : c < 16) : RsC (udA F q (upd (F q) i x)) A (upd f (6607 + 26 * c + i) x) q c := by
  obtain ⟨⟨h0, h1, h2⟩, h3, h4⟩ := h
  refine ⟨⟨?_, ?_, ?_⟩, fun j hj => ⟨?_, ?_, fun k hk => ?_⟩, fun t ht => ?_⟩
  · rw [udA_t]; unfold upd; by_cases e : 0 = i
    · subst e; rw [if_pos rfl, if_pos rfl]
    · rw [if_neg e, if_neg (by omega)]; exact h0
  · rw [udA_t]; unfold upd; by_cases e : 1 = i
    · subst e; rw [if_pos rfl, if_pos rfl]
    · rw [if_neg e, if_neg (by omega)]; exact h1
  · rw [udA_t]; unfold upd; by_cases e : 2 = i
    · subst e; rw [if_pos rfl, if_pos rfl]
    · rw [if_neg e, if_neg (by omega)]; exact h2
  · rw [upd_ne (by omega)]; exact (h3 j hj).1
  · rw [upd_ne (by omega)]; exact (h3 j hj).2.1
  · rw [upd_ne (by omega)]; exact (h3 j hj).2.2 k hk
  · rw [upd_ne (by omega)]; exact h4 t ht
theorem RsC.oth {q c c1 : Nat} {q1 : Nat} {F1 A1 : Nat → Nat → Int32} (h : RsC F A f (561 + 5 * c) c) (hne : c ≠ c1) (hc : c < 16) (h1 : c1 < 16) (hF : ∀ q, (q < 561 + 5 * c1 ∨ 561 + 5 * c1 + 5 ≤ q) → F1 q = F q ∧ A1 q = A q) (hf : ∀ i, (i < 6607 + 26 * c1 ∨ 6607 + 26 * c1 + 26 ≤ i) → (∀ k j, k < 20 → j < 10 → i ≠ 7023 + 10 * (16 * k + c1) + j) → f' i = f i) : RsC F1 A1 f' (561 + 5 * c) c := by
  refine (h.keep (fun r h1 h2 => hF r (by omega))).cong (fun i h1 h2 => hf i (by omega) (fun k j hk hj => by omega)) (fun k j hk hj => ?_)
  rw [hf _ (by omega) (fun k' j' hk' hj' => by omega)]
theorem samL_c (h : ∀ i, (i < 6606 ∨ 10223 ≤ i) → f' i = f i) (h60 : np ≤ 60) (h20 : nm ≤ 20) : samL f f' np nm := ⟨h 1 (by omega), fun p hp i h1 h2 => h i (by omega), fun k hk i h1 h2 => h i (by omega)⟩
/-- a card struck -/
theorem RS.struck {c : Nat} {x : Int32} (hR : RS F A f 6 np nm nc nt ns nh) (hI : IV f np nm nc nt ns nh) (hc : c < nc) : RS (udA F (561 + 5 * c) (upd (F (561 + 5 * c)) 2 x)) A (upd f (6607 + 26 * c + 2) x) 6 np nm nc nt ns nh := by
  have h16 := hI.c16
  refine hR.cards hI (fun i hi => upd_ne (by omega)) (by rw [udA_ne (by omega)]; exact hR.1.2.2.2.2.2.2.1) (fun k hk => by rw [udA_ne (by omega)]) (fun q h1 h2 h3 => udA_ne (by omega)) (fun _ _ _ _ => rfl) (fun c' hc' => ?_)
  by_cases e : c' = c
  · subst e; exact (hR.ca hc').num (by decide) (by omega)
  · exact (hR.ca hc').oth (q := 0) (q1 := 0) e (by omega) (show c < 16 by omega) (fun q hq => ⟨udA_ne (by omega), rfl⟩) (fun i h1 h2 => upd_ne (by omega))
theorem IV.struck {c : Nat} {x : Int32} (hI : IV f np nm nc nt ns nh) (hc : c < nc) (hx : N1 x) : IV (upd f (6607 + 26 * c + 2) x) np nm nc nt ns nh := by
  have h16 := hI.c16
  refine hI.cards (fun i hi => upd_ne (by omega)) (by rw [upd_ne (by omega)]; exact hI.1.2.2.1.1) h16 (Nat.le_refl _) (fun c' hc' => ?_) (fun k c' j h1 h2 h3 h4 => by rw [upd_ne (by omega)]; exact hI.2.2.2.2.2.1.2 k c' j h1 h2 h3 h4)
  obtain ⟨a1, a2, a3, a4, a5⟩ := hI.ca hc'
  refine ⟨by rw [upd_ne (by omega)]; exact a1, ?_, fun t ht => by rw [upd_ne (by omega)]; exact a3 t ht, fun j hj => by rw [upd_ne (by omega), upd_ne (by omega)]; exact a4 j hj, ?_⟩
  · by_cases e : c' = c
    · subst e; rw [upd_at]; exact hx
    · rw [upd_ne (by omega)]; exact a2
  · rw [cn_c (P' := fun j => decide (0 ≤ f (6607 + 26 * c' + (16 + j)))) 10 (fun j hj => by rw [upd_ne (by omega)])]
    exact a5
end K
section CALLS
variable {g : aG} {d : Nat} {w : aW} {F A : Nat → Nat → Int32} {L : Nat → Int64} {f : Nat → Int32} {np nm nc nt ns nh v : Nat}
theorem c_ofCardF {c : Nat} {day : Int32} (hR : RS F A f 6 np nm nc nt ns nh) (hI : IV f np nm nc nt ns nh) (hc : c < nc) (hn : w.1 = N0) : Ev g (d + 2) 10 [.ref 1405, .ref (561 + 5 * c), .int day] (cW w F A L) (fun r w' => r = none ∧ ∃ h L', w' = cW w (udA F 1405 h) A L' ∧ (bestT f day nt = none ∨ FcC (udA F 1405 h) L' (tgC f c day) (fcC f c day))) noX := by
  have h16 := hI.c16
  refine ev_m (c_ofCard (caA (by omega)) hn) (fun r w' h => ?_) (fun _ _ h => h)
  obtain ⟨rfl, h, hw, hb⟩ := h
  refine ⟨rfl, h, _, hw, ?_⟩
  have hC := hR.ca hc
  obtain ⟨⟨vt, hvt, et⟩, _, hN, _⟩ := hI.ca hc
  rcases hI.day day with h9 | ⟨dv, hdv, ed⟩
  · exact Or.inl h9
  · refine Or.inr ⟨fun k hk => ?_, fun k hk => ?_⟩
    · rw [udA_t, hb k hk]
      cases k with
      | zero => rfl
      | succ k =>
        have e := hC.2.2 k (by omega)
        have hn1 := (hN k (by omega)).neg
        show decide (¬ A (561 + 5 * c + 4) k = -1 ∧ A (561 + 5 * c + 4) k ≤ day) = decide (0 ≤ f (6607 + 26 * c + (3 + k)) ∧ f (6607 + 26 * c + (3 + k)) ≤ day)
        rw [e]
        exact dec_congr ⟨fun h => ⟨Int32.not_lt.mp (fun h2 => h.1 (hn1.mpr h2)), h.2⟩, fun h => ⟨fun h2 => absurd (hn1.mp h2) (Int32.not_lt.mpr h.1), h.2⟩⟩
    · unfold fcC fc5
      rw [hC.1.2.1, et, ed]
      obtain rfl | rfl | rfl | rfl | rfl : k = 0 ∨ k = 1 ∨ k = 2 ∨ k = 3 ∨ k = 4 := by omega
      · exact zrL_at (L := L) (show 0 < 5 by decide)
      · exact zrL_at (L := L) (show 1 < 5 by decide)
      · exact zrL_at (L := L) (show 2 < 5 by decide)
      · exact zrL_at (L := L) (show 3 < 5 by decide)
      · exact (L_sub hdv (by omega)).symm
theorem skF_s {n c : Nat} {o : Option Nat} {kp : Bool} {f : Nat → Int32} : skF n o kp f (c + 1) = (if skP (skF n o kp f c) n o kp c then upd (skF n o kp f c) (6607 + 26 * c + 2) (skF n o kp f c 0) else skF n o kp f c) := rfl
theorem c_strikeCards (hK : KI F A f np nm v) (hR : RS F A f 6 np nm nc nt ns nh) (hI : IV f np nm nc nt ns nh) (hn : w.1 = N0) : Ev g (d + 5) 157 [.ref 0] (cW w F A L) (fun r w' => r = none ∧ ∃ F' A' L', w' = cW w F' A' L' ∧ stI F A F' A' (strikesF f nt nc) np nm nc nt ns nh v) noX := by
  have h16 := hI.c16
  have h10 := hI.t10
  have h60 := hI.p60
  have h20 := hI.m20
  unfold strikesF
  generalize ho : bestT f (f 0) nt = o
  have hto : TeAt (teQ o) := by rw [← ho]; exact te_b h10
  obtain ⟨t0, ht0, et0⟩ := hI.2.1.1
  generalize hkp : keepsB f o = kp
  have loop : ∀ c, c ≤ nc → ∀ F1 A1 L1 l3 l4, stI F A F1 A1 (skF nt o kp f c) np nm nc nt ns nh v → agS f (skF nt o kp f c) → EX g mbOf (Ev g (d + 4)) (infoOf 157) k_X10_strikeCards (fun r w' => r = none ∧ ∃ F' A' L', w' = cW w F' A' L' ∧ stI F A F' A' (skF nt o kp f nc) np nm nc nt ns nh v) noX w.1 (cW w F1 A1 L1) 0 0 9 [some (.ref 0), some (.ref (teQ o)), some (.int (nI c)), l3, l4] [] := by
    refine downN nc fun c hcn ih => ?_
    intro F1 A1 L1 l3 l4 ⟨hR1, hI1, hK1, hO1⟩ hag
    refine x_il rfl rfl ?_
    refine x_al rfl rfl ?_
    refine x_getC rfl hn (by with_reducible exact sp_0) (by exact rfl) ?_
    refine x_getC rfl hn (by with_reducible exact (by first | exact sp_6 | exact st_0 (by assumption))) (by exact rfl) ?_
    rw [show F1 6 6 = nI nc from hR1.1.2.2.2.2.2.2.1]
    refine x_icgeN rfl (by omega) (fun cc => ?_) (fun cc => ?_)
    · refine x_retv rfl (Nat.le_of_ble_eq_true rfl) (Nat.le_of_ble_eq_true rfl) rfl ?_
      obtain rfl : c = nc := by omega
      exact ⟨rfl, F1, A1, L1, rfl, hR1, hI1, hK1, hO1⟩
    refine x_al rfl rfl ?_
    refine x_getC rfl hn (by with_reducible exact sp_0) (by exact rfl) ?_
    refine x_getC rfl hn (by with_reducible exact (by first | exact sp_6 | exact st_0 (by assumption))) (by exact rfl) ?_
    refine x_il rfl rfl ?_
    refine x_aaC rfl hn (by with_reducible exact sp_9) (by decide) (by omega) ?_
    refine x_as (lo' := [_, _, _, _, _]) rfl (Nat.le_of_ble_eq_true rfl) rfl ?_
    refine x_al rfl rfl ?_
    refine x_getC rfl hn (by with_reducible exact ca_0 (by first | assumption | exact caA (by omega) | exact caB (by assumption) (by omega))) (by exact rfl) ?_
    refine x_c rfl ?_
    have ih := ih cc
    rw [skF_s] at ih
    generalize skF nt o kp f c = u at *
    have hC := hR1.ca cc
    have eu0 : u 0 = f 0 := hag 0 (Or.inl (by decide))
    have hT : samT f u := fun i hi => hag i (by omega)
    have hN := (hI1.ca cc).2.1.neg
    have skip : ¬ skP u nt o kp c → ∀ F2 A2 L2 l4, stI F A F2 A2 u np nm nc nt ns nh v → EX g mbOf (Ev g (d + 4)) (infoOf 157) k_X10_strikeCards (fun r w' => r = none ∧ ∃ F' A' L', w' = cW w F' A' L' ∧ stI F A F' A' (skF nt o kp f nc) np nm nc nt ns nh v) noX w.1 (cW w F2 A2 L2) 0 0 65 [some (.ref 0), some (.ref (teQ o)), some (.int (nI c)), some (.ref (561 + 5 * c)), l4] [] := by
      intro hs F2 A2 L2 l4 hst
      rw [if_neg hs] at ih
      refine x_inc1 (lo' := [_, _, _, _, _]) rfl rfl rfl ?_
      refine x_go rfl ?_
      exact ih F2 A2 L2 _ _ hst hag
    rw [hC.1.2.2]
    refine x_iceq rfl (fun c1 => ?_) (fun c1 => ?_)
    rotate_left
    · refine x_go rfl ?_
      exact skip (fun h => c1 (hN.mpr h.1)) _ _ _ _ ⟨hR1, hI1, hK1, hO1⟩
    refine x_al rfl rfl ?_
    refine x_getC rfl hn (by with_reducible exact sp_0) (by exact rfl) ?_
    refine x_al rfl rfl ?_
    refine x_al rfl rfl ?_
    refine x_getC rfl hn (by with_reducible exact sp_0) (by exact rfl) ?_
    refine x_getC rfl hn (by with_reducible exact (by first | exact sp_6 | exact st_0 (by assumption))) (by exact rfl) ?_
    have c1 := hN.mp c1
    rw [show F1 6 0 = f 0 from hR1.1.1.trans eu0]
    refine x_call3 (c_ofCardF (day := f 0) hR1 hI1 cc hn) rfl (Nat.le_of_ble_eq_true rfl) (Or.inl (by first | exact hn | assumption)) (rcv_at (cw_fs (by with_reducible exact sp_1405) hn) (by decide) (by decide)) (Nat.le_of_ble_eq_true rfl) (Nat.le_of_ble_eq_true rfl) (fun E w9 hq => hq.elim) ?_
    rintro v9 w9 ⟨rfl, h5, L2, rfl, hF⟩
    refine x_al rfl rfl ?_
    refine x_c rfl ?_
    have hbu : bestT u (f 0) nt = o := by rw [bestT_c hT, ho]
    rw [hbu] at hF
    have hst2 : stI F A (udA F1 1405 h5) A1 u np nm nc nt ns nh v := ⟨hR1.keep hI1 (fun q h1 h2 => ⟨udA_ne (by omega), rfl⟩), hI1, hK1.keepC rfl rfl, fun q hq => ⟨by rw [udA_ne (by omega)]; exact (hO1 q hq).1, (hO1 q hq).2⟩⟩
    have hTO : TxO (udA F1 1405 h5) A1 (teQ o) u o := by have := hst2.1.txo (f 0); rw [hbu] at this; exact this
    have hkb : keepsB u o = kp := by
      rw [← hkp]
      cases o with
      | none => rfl
      | some t =>
        show decide (¬ cn (fun k => u (rl t k) == 4) (rulC u t) = 0) = decide (¬ cn (fun k => f (rl t k) == 4) (rulC f t) = 0)
        rw [rulC_c hT, cn_c (P' := fun k => f (rl t k) == 4) _ (fun k hk => by rw [hT (rl t k) (by unfold rl; omega)])]
    have strike : skP u nt o kp c → ∀ l4, EX g mbOf (Ev g (d + 4)) (infoOf 157) k_X10_strikeCards (fun r w' => r = none ∧ ∃ F' A' L', w' = cW w F' A' L' ∧ stI F A F' A' (skF nt o kp f nc) np nm nc nt ns nh v) noX w.1 (cW w (udA F1 1405 h5) A1 L2) 0 0 60 [some (.ref 0), some (.ref (teQ o)), some (.int (nI c)), some (.ref (561 + 5 * c)), l4] [] := by
      intro hs l4
      rw [if_pos hs, eu0] at ih
      refine x_al rfl rfl ?_
      refine x_al rfl rfl ?_
      refine x_getC rfl hn (by with_reducible exact sp_0) (by exact rfl) ?_
      refine x_getC rfl hn (by with_reducible exact (by first | exact sp_6 | exact st_0 (by assumption))) (by exact rfl) ?_
      rw [show udA F1 1405 h5 6 0 = f 0 from hR1.1.1.trans eu0]
      refine x_putC rfl hn (by with_reducible exact ca_0 (by first | assumption | exact caA (by omega) | exact caB (by assumption) (by omega))) (by exact rfl) (by first | rfl | exact nr_z (by assumption)) rfl ?_
      refine x_inc1 (lo' := [_, _, _, _, _]) rfl rfl rfl ?_
      refine x_go rfl ?_
      refine ih _ _ _ _ _ ⟨hst2.1.struck hst2.2.1 cc, hst2.2.1.struck cc (Or.inr ⟨t0, ht0, et0⟩), (hst2.2.2.1.cong (samL_c (fun i hi => upd_ne (by omega)) h60 h20) hI1.wp h60 h20 (Nat.le_refl _) (Nat.le_refl _)).keepC (by rw [udA_ne (by omega)]) rfl, fun q hq => ⟨by rw [udA_ne (by omega)]; exact (hst2.2.2.2 q hq).1, (hst2.2.2.2 q hq).2⟩⟩ (agS_t hag (agS_u (by omega)))
    have at50 : ∀ b : Bool, (b = true ↔ (kp = true ∧ keptF u nt c (f 0) < f 0 - u (6607 + 26 * c + 1))) → ∀ l4, EX g mbOf (Ev g (d + 4)) (infoOf 157) k_X10_strikeCards (fun r w' => r = none ∧ ∃ F' A' L', w' = cW w F' A' L' ∧ stI F A F' A' (skF nt o kp f nc) np nm nc nt ns nh v) noX w.1 (cW w (udA F1 1405 h5) A1 L2) 0 0 50 [some (.ref 0), some (.ref (teQ o)), some (.int (nI c)), some (.ref (561 + 5 * c)), l4] [.int (bI b)] := by
      intro b hb l4
      refine x_is (lo' := [_, _, _, _, _]) rfl (Nat.le_of_ble_eq_true rfl) rfl ?_
      refine x_il rfl rfl ?_
      refine x_ifne rfl (fun c2 => ?_) (fun c2 => ?_)
      · skip
        exact strike ⟨c1, Or.inr (by rw [eu0]; exact hb.mp (by cases b with | true => rfl | false => exact absurd rfl c2))⟩ _
      refine x_al rfl rfl ?_
      refine x_c rfl ?_
      refine x_al rfl rfl ?_
      refine x_getC rfl hn (by with_reducible exact sp_0) (by exact rfl) ?_
      have hnb : ¬ (kp = true ∧ keptF u nt c (f 0) < f 0 - u (6607 + 26 * c + 1)) := fun h => by
        rw [bI_z.mp c2] at hb
        exact absurd (hb.mpr h) (by decide)
      refine x_call3 (c_firstHolding (so := 5) hto hTO hF hn) rfl (Nat.le_of_ble_eq_true rfl) (Or.inl (by first | exact hn | assumption)) (rcv_at (cw_fs (by with_reducible exact te_0 (by first | assumption | exact teA (by omega) | exact teN | exact teD | exact te_b (by assumption) | exact teB (by assumption) (by omega))) hn) (by decide) (by decide)) (Nat.le_of_ble_eq_true rfl) (Nat.le_of_ble_eq_true rfl) (fun E w9 hq => hq.elim) ?_
      rintro v9 w9 ⟨rfl, rfl⟩
      refine x_c rfl ?_
      have h15 := firstF_o (f := u) (o := o) (so := 5) (tg := tgC u c (f 0)) (fc := fcC u c (f 0))
      refine x_iceq rfl (fun c3 => ?_) (fun c3 => ?_)
      · skip
        exact skip (fun h => h.2.elim (fun h => by rw [eu0, c3] at h; exact absurd h (by decide)) (fun h => hnb (by rw [eu0] at h; exact h))) _ _ _ _ hst2
      exact strike ⟨c1, Or.inl (by rw [eu0]; exact h15.resolve_left c3)⟩ _
    refine x_call2 (c_hasKind hto hTO hn) rfl (Nat.le_of_ble_eq_true rfl) (Or.inl (by first | exact hn | assumption)) (rcv_at (cw_fs (by with_reducible exact te_0 (by first | assumption | exact teA (by omega) | exact teN | exact teD | exact te_b (by assumption) | exact teB (by assumption) (by omega))) hn) (by decide) (by decide)) (Nat.le_of_ble_eq_true rfl) (Nat.le_of_ble_eq_true rfl) (fun E w9 hq => hq.elim) ?_
    rintro v9 w9 ⟨rfl, rfl⟩
    rw [hkb]
    cases kp with
    | false =>
      refine x_ifeq rfl (fun e9 => ?_) (fun e9 => absurd rfl e9)
      refine x_c rfl ?_
      exact at50 false ⟨(fun h => absurd h (by decide)), fun h => absurd h.1 (by decide)⟩ _
    | true =>
      refine x_ifeq rfl (fun e9 => absurd e9 (show ¬ (1 : Int32) = 0 by decide)) (fun e9 => ?_)
      refine x_al rfl rfl ?_
      refine x_getC rfl hn (by with_reducible exact sp_0) (by exact rfl) ?_
      refine x_getC rfl hn (by with_reducible exact (by first | exact sp_6 | exact st_0 (by assumption))) (by exact rfl) ?_
      refine x_al rfl rfl ?_
      refine x_getC rfl hn (by with_reducible exact ca_0 (by first | assumption | exact caA (by omega) | exact caB (by assumption) (by omega))) (by exact rfl) ?_
      refine x_sub rfl ?_
      rw [show udA F1 1405 h5 6 0 = f 0 from hR1.1.1.trans eu0, udA_ne (show 561 + 5 * c ≠ 1405 by omega), hC.1.2.1]
      refine x_al rfl rfl ?_
      refine x_al rfl rfl ?_
      refine x_getC rfl hn (by with_reducible exact sp_0) (by exact rfl) ?_
      refine x_call2 (c_keptBy hto hTO hF hn) rfl (Nat.le_of_ble_eq_true rfl) (Or.inl (by first | exact hn | assumption)) (rcv_at (cw_fs (by with_reducible exact te_0 (by first | assumption | exact teA (by omega) | exact teN | exact teD | exact te_b (by assumption) | exact teB (by assumption) (by omega))) hn) (by decide) (by decide)) (Nat.le_of_ble_eq_true rfl) (Nat.le_of_ble_eq_true rfl) (fun E w9 hq => hq.elim) ?_
      rintro v9 w9 ⟨rfl, rfl⟩
      have ekp : keepT u o (tgC u c (f 0)) (fcC u c (f 0)) = keptF u nt c (f 0) := by unfold keptF; rw [hbu]
      rw [ekp]
      refine x_icle rfl (fun c4 => ?_) (fun c4 => ?_)
      · skip
        refine x_c rfl ?_
        exact at50 false ⟨(fun h => absurd h (by decide)), fun h => absurd h.2 (Int32.not_lt.mpr c4)⟩ _
      refine x_c rfl ?_
      refine x_go rfl ?_
      exact at50 true ⟨fun _ => ⟨rfl, Int32.not_le.mp c4⟩, fun _ => rfl⟩ _
  refine ev_X10_strikeCards ?_ (Nat.le_of_ble_eq_true rfl)
  refine x_lo (lo' := [some (.ref 0), none, none, none, none]) rfl ?_
  refine x_al rfl rfl ?_
  refine x_getC rfl hn (by with_reducible exact sp_0) (by exact rfl) ?_
  refine x_al rfl rfl ?_
  refine x_getC rfl hn (by with_reducible exact sp_0) (by exact rfl) ?_
  refine x_getC rfl hn (by with_reducible exact (by first | exact sp_6 | exact st_0 (by assumption))) (by exact rfl) ?_
  rw [show F 6 0 = f 0 from hR.1.1]
  refine x_call2 (c_textOn (day := f 0) hR h10 hn) rfl (Nat.le_of_ble_eq_true rfl) (Or.inl (by first | exact hn | assumption)) (rcv_at (cw_fs (by with_reducible exact (by first | exact sp_6 | exact st_0 (by assumption))) hn) (by decide) (by decide)) (Nat.le_of_ble_eq_true rfl) (Nat.le_of_ble_eq_true rfl) (fun E w9 hq => hq.elim) ?_
  rintro v9 w9 ⟨rfl, rfl⟩
  refine x_as (lo' := [_, _, _, _, _]) rfl (Nat.le_of_ble_eq_true rfl) rfl ?_
  refine x_c rfl ?_
  refine x_is (lo' := [_, _, _, _, _]) rfl (Nat.le_of_ble_eq_true rfl) rfl ?_
  rw [ho]
  exact loop 0 (Nat.zero_le _) F A L none none ⟨hR, hI, hK, fun _ _ => ⟨rfl, rfl⟩⟩ (fun _ _ => rfl)
/-- what a call that may change the State leaves, or throws -/
def stQ (w : aW) (F A : Nat → Nat → Int32) (np nm nc nt ns v : Nat) (ok : Bool) (r : Option Value) (f1 : Nat → Int32) : Option Value → aW → Prop := fun v1 w' => ok = true ∧ v1 = r ∧ ∃ F' A' L' nh', w' = cW w F' A' L' ∧ stI F A F' A' f1 np nm nc nt ns nh' v
def thQ (W : aW) (ok : Bool) (k : Nat) : String → aW → Prop := fun E w' => ok = false ∧ E = exN k ∧ w' = W
theorem daysF_0 {n nc nm ns k : Nat} {u : Nat → Int32} (h : ¬ u 0 < 2000) : daysF n nc nm ns k u = u := by
  cases k with
  | zero => rfl
  | succ k =>
    unfold daysF
    rw [if_neg h]
theorem daysF_s {n nc nm ns k : Nat} {u : Nat → Int32} (h : u 0 < 2000) : daysF n nc nm ns (k + 1) u = daysF n nc nm ns k (dayF n nc nm ns u) := by
  rw [daysF, if_pos h]
theorem c_days {x : Int32} (hK : KI F A f np nm v) (hR : RS F A f 6 np nm nc nt ns nh) (hI : IV f np nm nc nt ns nh) (hn : w.1 = N0) : Ev g (d + 16) 152 [.ref 0, .int x] (cW w F A L) (stQ w F A np nm nc nt ns v (okN x 41) (some (.int (daysF nt nc nm ns (cN x) f 0))) (daysF nt nc nm ns (cN x) f)) (thQ (cW w F A L) (okN x 41) 0) := by
  have h60 := hI.p60
  have h20 := hI.m20
  obtain ⟨t0, ht0, et0⟩ := hI.2.1.1
  refine ev_X10_days ?_ (Nat.le_of_ble_eq_true rfl)
  refine x_lo (lo' := [some (.ref 0), some (.int x), none, none]) rfl ?_
  refine x_il rfl rfl ?_
  refine x_iflt rfl (fun c1 => ?_) (fun c1 => ?_)
  · skip
    refine x_thr rfl hn rfl (Nat.le_of_ble_eq_true rfl) (Nat.le_of_ble_eq_true rfl) (Nat.le_of_ble_eq_true rfl) ?_
    exact ⟨c_noN1 c1, rfl, rfl⟩
  refine x_il rfl rfl ?_
  refine x_c rfl ?_
  refine x_icle rfl (fun c2 => ?_) (fun c2 => ?_)
  rotate_left
  · skip
    refine x_thr rfl hn rfl (Nat.le_of_ble_eq_true rfl) (Nat.le_of_ble_eq_true rfl) (Nat.le_of_ble_eq_true rfl) ?_
    exact ⟨c_noN2 (n := 41) (by
      have h2 := Int32.not_le.mp c2
      rw [Int32.lt_iff_toInt_lt] at h2
      rw [Int32.le_iff_toInt_le]
      have e1 : (40 : Int32).toInt = 40 := rfl
      have e2 : (nI 41).toInt = 41 := rfl
      rw [e1] at h2
      rw [e2]
      omega), rfl, rfl⟩
  have hok : okN x 41 = true := c_okN (by decide) c1 (by
    intro h2
    rw [Int32.le_iff_toInt_le] at h2 c2
    have e1 : (40 : Int32).toInt = 40 := rfl
    have e2 : (nI 41).toInt = 41 := rfl
    rw [e1] at c2
    rw [e2] at h2
    omega)
  obtain ⟨k, hk, rfl, ek⟩ := ok_of hok (by decide)
  rw [hok, ek]
  have loop : ∀ j, ∀ t u F1 A1 L1 nh1, u 0 = nI t → t ≤ 2000 → daysF nt nc nm ns j u = daysF nt nc nm ns k f → j ≤ 40 → stI F A F1 A1 u np nm nc nt ns nh1 v → EX g mbOf (Ev g (d + 15)) (infoOf 152) k_X10_days (stQ w F A np nm nc nt ns v true (some (.int (daysF nt nc nm ns k f 0))) (daysF nt nc nm ns k f)) (thQ (cW w F A L) true 0) w.1 (cW w F1 A1 L1) 0 0 24 [some (.ref 0), some (.int (nI k)), some (.int (nI (min (t + j) 2000))), some (.int (nI (t + 1)))] [] := by
    intro j
    induction j with
    | zero =>
      intro t u F1 A1 L1 nh1 e0 ht hd hj hst
      have hd : u = daysF nt nc nm ns k f := hd
      refine x_il rfl rfl ?_
      refine x_il rfl rfl ?_
      refine x_icgtN rfl (by omega) (fun c => ?_) (fun c => absurd c (by omega))
      refine x_al rfl rfl ?_
      refine x_getC rfl hn (by with_reducible exact sp_0) (by exact rfl) ?_
      refine x_getC rfl hn (by with_reducible exact (by first | exact sp_6 | exact st_0 (by assumption))) (by exact rfl) ?_
      refine x_reti rfl (Nat.le_of_ble_eq_true rfl) (Nat.le_of_ble_eq_true rfl) rfl ?_
      rw [← hd]
      exact ⟨rfl, by rw [hst.1.1.1], F1, A1, L1, nh1, rfl, hst⟩
    | succ j ih =>
      intro t u F1 A1 L1 nh1 e0 ht hd hj hst
      by_cases htt : t < 2000
      · have hlt : u 0 < 2000 := by rw [e0]; exact (nI_ltI (b := 2000) (by omega) (by omega)).mpr htt
        rw [daysF_s hlt] at hd
        refine x_il rfl rfl ?_
        refine x_il rfl rfl ?_
        refine x_icgtN rfl (by omega) (fun c => absurd c (by omega)) (fun c => ?_)
        refine x_al rfl rfl ?_
        refine x_getC rfl hn (by with_reducible exact sp_0) (by exact rfl) ?_
        refine x_il rfl rfl ?_
        refine x_putC rfl hn (by with_reducible exact (by first | exact sp_6 | exact st_0 (by assumption))) (by exact rfl) (by first | rfl | exact nr_z (by assumption)) rfl ?_
        refine x_al rfl rfl ?_
        refine x_al rfl rfl ?_
        have e01 : u 0 + 1 = nI (t + 1) := by rw [e0]; exact nI_add t 1
        have hIa : IV (upd u 0 (u 0 + 1)) np nm nc nt ns nh1 := hst.2.1.low (fun i hi => upd_ne (by omega)) ⟨t + 1, by omega, by rw [upd_at]; exact e01⟩ (by rw [upd_ne (by decide)]; exact hst.2.1.2.1.2)
        have hRa : RS (udA F1 6 (upd (F1 6) 0 (nI (t + 1)))) A1 (upd u 0 (u 0 + 1)) 6 np nm nc nt ns nh1 := by rw [← e01]; exact hst.1.num hst.2.1 (by decide)
        have hKa : KI (udA F1 6 (upd (F1 6) 0 (nI (t + 1)))) A1 (upd u 0 (u 0 + 1)) np nm v := (hst.2.2.1.cong ⟨upd_ne (by decide), fun p hp i h1 h2 => upd_ne (by omega), fun k hk i h1 h2 => upd_ne (by omega)⟩ hst.2.1.wp h60 h20 (Nat.le_refl _) (Nat.le_refl _)).keepC rfl rfl
        refine x_call1 (c_provedMarks hKa hRa hIa hn) rfl (Nat.le_of_ble_eq_true rfl) (Or.inl (by first | exact hn | assumption)) (rcv_at (cw_fs (by with_reducible exact sp_0) hn) (by decide) (by decide)) (Nat.le_of_ble_eq_true rfl) (Nat.le_of_ble_eq_true rfl) (fun E w9 hq => hq.elim) ?_
        rintro v9 w9 ⟨F2, A2, L2, rfl, hs2, hK2, y, rfl, hy⟩
        have hR2 := hRa.keep hIa (fun q h1 h2 => hs2 q (by omega))
        refine x_call2 (c_workDesk hy hK2 hR2 hIa hn) rfl (Nat.le_of_ble_eq_true rfl) (Or.inl (by first | exact hn | assumption)) (rcv_at (cw_fs (by with_reducible exact sp_0) hn) (by decide) (by decide)) (Nat.le_of_ble_eq_true rfl) (Nat.le_of_ble_eq_true rfl) (fun E w9 hq => hq.elim) ?_
        rintro v9 w9 ⟨rfl, hag, F3, A3, L3, nh3, rfl, hst3⟩
        refine x_al rfl rfl ?_
        refine x_call1 (c_strikeCards hst3.2.2.1 hst3.1 hst3.2.1 hn) rfl (Nat.le_of_ble_eq_true rfl) (Or.inl (by first | exact hn | assumption)) (rcv_at (cw_fs (by with_reducible exact sp_0) hn) (by decide) (by decide)) (Nat.le_of_ble_eq_true rfl) (Nat.le_of_ble_eq_true rfl) (fun E w9 hq => hq.elim) ?_
        rintro v9 w9 ⟨rfl, F4, A4, L4, rfl, hst4⟩
        refine x_inc1 (lo' := [_, _, _, _]) rfl rfl rfl ?_
        refine x_go rfl ?_
        rw [show min (t + (j + 1)) 2000 = min (t + 1 + j) 2000 by omega]
        refine ih (t + 1) (dayF nt nc nm ns u) F4 A4 L4 nh3 ?_ (by omega) hd (by omega) ⟨hst4.1, hst4.2.1, hst4.2.2.1, fun q hq => ?_⟩
        · show strikesF (desksF (upd u 0 (u 0 + 1)) nt nc nm ns) nt nc 0 = _
          rw [show strikesF (desksF (upd u 0 (u 0 + 1)) nt nc nm ns) nt nc 0 = desksF (upd u 0 (u 0 + 1)) nt nc nm ns 0 from skF_ag nc hst3.2.1.c16 0 (Or.inl (by decide)), hag 0 (by unfold dkC; omega), upd_at]
          exact e01
        · have h1 := hst4.2.2.2 q hq
          have h2 := hst3.2.2.2 q hq
          have h3 := hs2 q (by omega)
          have h4 := hst.2.2.2 q hq
          exact ⟨h1.1.trans (h2.1.trans (h3.1.trans ((udA_ne (by omega)).trans h4.1))), h1.2.trans (h2.2.trans (h3.2.trans h4.2))⟩
      · have e9 : u = daysF nt nc nm ns k f := by
          rw [← hd, daysF_0]
          rw [e0]
          exact fun h => htt ((nI_ltI (b := 2000) (by omega) (by omega)).mp h)
        refine x_il rfl rfl ?_
        refine x_il rfl rfl ?_
        refine x_icgtN rfl (by omega) (fun c => ?_) (fun c => absurd c (by omega))
        refine x_al rfl rfl ?_
        refine x_getC rfl hn (by with_reducible exact sp_0) (by exact rfl) ?_
        refine x_getC rfl hn (by with_reducible exact (by first | exact sp_6 | exact st_0 (by assumption))) (by exact rfl) ?_
        refine x_reti rfl (Nat.le_of_ble_eq_true rfl) (Nat.le_of_ble_eq_true rfl) rfl ?_
        rw [← e9]
        exact ⟨rfl, by rw [hst.1.1.1], F1, A1, L1, nh1, rfl, hst⟩
  refine x_al rfl rfl ?_
  refine x_getC rfl hn (by with_reducible exact sp_0) (by exact rfl) ?_
  refine x_getC rfl hn (by with_reducible exact (by first | exact sp_6 | exact st_0 (by assumption))) (by exact rfl) ?_
  rw [show F 6 0 = nI t0 from hR.1.1.trans et0]
  refine x_il rfl rfl ?_
  refine x_addN rfl ?_
  refine x_c rfl ?_
  refine x_call2 (m_minN (y := 2000) ⟨by omega, by omega⟩) rfl (Nat.le_of_ble_eq_true rfl) (Or.inl (by first | exact hn | assumption)) trivial (Nat.le_of_ble_eq_true rfl) (Nat.le_of_ble_eq_true rfl) (fun E w9 hq => hq.elim) ?_
  rintro v9 w9 ⟨rfl, rfl⟩
  refine x_is (lo' := [_, _, _, _]) rfl (Nat.le_of_ble_eq_true rfl) rfl ?_
  refine x_al rfl rfl ?_
  refine x_getC rfl hn (by with_reducible exact sp_0) (by exact rfl) ?_
  refine x_getC rfl hn (by with_reducible exact (by first | exact sp_6 | exact st_0 (by assumption))) (by exact rfl) ?_
  rw [show F 6 0 = nI t0 from hR.1.1.trans et0]
  refine x_c rfl ?_
  refine x_addN (y := 1) rfl ?_
  refine x_is (lo' := [_, _, _, _]) rfl (Nat.le_of_ble_eq_true rfl) rfl ?_
  exact loop k t0 f F A L nh et0 ht0 rfl (by omega) ⟨hR, hI, hK, fun _ _ => ⟨rfl, rfl⟩⟩
end CALLS
