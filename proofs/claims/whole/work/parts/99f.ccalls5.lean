/-! points and spots; cw_ -/
section K
variable {F A F' A' : Nat → Nat → Int32} {f f' : Nat → Int32} {np nm nc nt ns nh v : Nat}
theorem addF_o {a n i : Nat} {x y k h : Int32} (hn : n < 8) (hi : i < a ∨ a + 33 ≤ i) : addF f a n x y k h i = f i := by
  unfold addF
  rw [upd_ne (by omega), upd_ne (by omega), upd_ne (by omega), upd_ne (by omega), upd_ne (by omega)]
theorem addF_a {a n : Nat} {x y k h : Int32} : addF f a n x y k h a = nI (n + 1) := upd_at
theorem LoD.add {q a n : Nat} {x y k h : Int32} (hL : LoD F A f q a n) (hn : n < 8) : LoD (udA F q (upd (F q) 4 (nI (n + 1)))) (shtA A q n x y k h) (addF f a n x y k h) q a (n + 1) := by
  refine ⟨by rw [udA_t, upd_at], fun j hj => ?_⟩
  rw [shtA_1, shtA_2, shtA_3, shtA_4]
  unfold addF
  by_cases e : j = n
  · subst e
    refine ⟨?_, ?_, ?_, ?_⟩
    · rw [upd_at, upd_ne (by omega), upd_ne (by omega), upd_ne (by omega), upd_ne (by omega), upd_at]
    · rw [upd_at, upd_ne (by omega), upd_ne (by omega), upd_ne (by omega), show a + 1 + 4 * j + 1 = a + 2 + 4 * j by omega, upd_at]
    · rw [upd_at, upd_ne (by omega), upd_ne (by omega), show a + 1 + 4 * j + 2 = a + 3 + 4 * j by omega, upd_at]
    · rw [upd_at, upd_ne (by omega), show a + 1 + 4 * j + 3 = a + 4 + 4 * j by omega, upd_at]
  · obtain ⟨h1, h2, h3, h4⟩ := hL.2 j (by omega)
    refine ⟨?_, ?_, ?_, ?_⟩
    · rw [upd_ne e, upd_ne (by omega), upd_ne (by omega), upd_ne (by omega), upd_ne (by omega), upd_ne (by omega)]; exact h1
    · rw [upd_ne e, upd_ne (by omega), upd_ne (by omega), upd_ne (by omega), upd_ne (by omega), upd_ne (by omega)]; exact h2
    · rw [upd_ne e, upd_ne (by omega), upd_ne (by omega), upd_ne (by omega), upd_ne (by omega), upd_ne (by omega)]; exact h3
    · rw [upd_ne e, upd_ne (by omega), upd_ne (by omega), upd_ne (by omega), upd_ne (by omega), upd_ne (by omega)]; exact h4
theorem WP.addP {p n : Nat} {x y k h : Int32} (hW : WP f) (hp : p < 60) (hn : n < 8) : WP (addF f (5 + 97 * p + 64) n x y k h) := by
  refine ⟨fun p' hp' => ?_, fun k' hk' => ?_⟩
  · by_cases e : p' = p
    · subst e
      rw [addF_a, show cN (nI (n + 1)) = n + 1 from nI_clamp (by omega)]
      exact ⟨rfl, by omega⟩
    · rw [addF_o hn (by omega)]; exact hW.1 p' hp'
  · rw [addF_o hn (by omega)]; exact hW.2 k' hk'
theorem WP.addM {p n : Nat} {x y k h : Int32} (hW : WP f) (hp : p < 20) (hn : n < 8) : WP (addF f (5826 + 39 * p + 6) n x y k h) := by
  refine ⟨fun p' hp' => ?_, fun k' hk' => ?_⟩
  · rw [addF_o hn (by omega)]; exact hW.1 p' hp'
  · by_cases e : k' = p
    · subst e
      rw [addF_a, show cN (nI (n + 1)) = n + 1 from nI_clamp (by omega)]
      exact ⟨rfl, by omega⟩
    · rw [addF_o hn (by omega)]; exact hW.2 k' hk'
/-- a point on print p -/
theorem RS.addP {p n : Nat} {x y k h : Int32} (hR : RS F A f 6 np nm nc nt ns nh) (hI : IV f np nm nc nt ns nh) (hp : p < np) (hc : cN (f (5 + 97 * p + 64)) = n) (hn : n < 8) : RS (udA F (21 + 7 * p + 2) (upd (F (21 + 7 * p + 2)) 4 (nI (n + 1)))) (shtA A (21 + 7 * p + 2) n x y k h) (addF f (5 + 97 * p + 64) n x y k h) 6 np nm nc nt ns nh := by
  have h60 := hI.p60
  have h20 := hI.m20
  refine hR.pm hI (fun i hi => addF_o hn (by omega)) (by rw [udA_ne (by omega)]; exact hR.1.2.2.2.2.1) (by rw [udA_ne (by omega)]; exact hR.1.2.2.2.2.2.1) (fun k _ _ => by rw [udA_ne (by omega)]) (fun q h1 h2 h3 => udA_ne (by omega)) (fun q h1 h2 h3 => shtA_o (by omega)) (fun p' hp' => ?_) (fun k' hk' => ?_)
  · by_cases e : p' = p
    · subst e
      obtain ⟨a1, a2, a3, a4, a5, a6, a7⟩ := hR.pr hp'
      rw [hc] at a3
      have hs : sameP f (addF f (5 + 97 * p' + 64) n x y k h) p' := fun i h1 h2 => addF_o hn (by omega)
      refine ⟨fun k' hk' => ?_, ?_, ?_, ?_⟩
      · rw [shtA_o (by omega), hs _ (by omega) (by omega)]; exact a1 k' hk'
      · refine FoP_c hs ?_
        unfold FoP
        rw [udA_ne (by omega)]; exact a2
      · rw [addF_a, show cN (nI (n + 1)) = n + 1 from nI_clamp (by omega)]
        exact a3.add hn
      · rw [udA_t, upd_ne (by decide), upd_ne (by decide), upd_ne (by decide), upd_ne (by decide)]; exact ⟨a4, a5, a6, a7⟩
    · exact ((hR.pr hp').keep (fun r h1 h2 => ⟨udA_ne (by omega), shtA_o (by omega)⟩)).cong (wp_p hI.wp (by omega)) (fun i h1 h2 => addF_o hn (by omega))
  · exact ((hR.ma hk').keep (fun r h1 h2 => ⟨udA_ne (by omega), shtA_o (by omega)⟩)).cong (wp_m hI.wp (by omega)) (fun i h1 h2 => addF_o hn (by omega))
theorem IV.addP {p n : Nat} {x y k h : Int32} (hI : IV f np nm nc nt ns nh) (hp : p < np) (hn : n < 8) : IV (addF f (5 + 97 * p + 64) n x y k h) np nm nc nt ns nh := by
  have h60 := hI.p60
  have h20 := hI.m20
  obtain ⟨⟨c1, c2, _⟩, _, hW, ⟨hp1, hp2⟩, ⟨hm1, hm2⟩, _⟩ := id hI
  refine hI.pm (fun i hi => addF_o hn (by omega)) (by rw [addF_o hn (by omega)]; exact c1) (by rw [addF_o hn (by omega)]; exact c2) (Nat.le_refl _) (Nat.le_refl _) (hW.addP (by omega) hn) ⟨fun p' hp' => CeR_c (fun i h1 h2 => addF_o hn (by omega)) (hp1 p' hp'), fun p' h1 h2 => by rw [addF_o hn (by omega)]; exact hp2 p' h1 h2⟩ ⟨fun k' hk' => by rw [addF_o hn (by omega), addF_o hn (by omega)]; exact hm1 k' hk', fun k' h1 h2 => by rw [addF_o hn (by omega)]; exact hm2 k' h1 h2⟩
/-- a spot on mark p -/
theorem RS.addM {p n : Nat} {x y k h : Int32} (hR : RS F A f 6 np nm nc nt ns nh) (hI : IV f np nm nc nt ns nh) (hp : p < nm) (hc : cN (f (5826 + 39 * p + 6)) = n) (hn : n < 8) : RS (udA F (441 + 6 * p + 1) (upd (F (441 + 6 * p + 1)) 4 (nI (n + 1)))) (shtA A (441 + 6 * p + 1) n x y k h) (addF f (5826 + 39 * p + 6) n x y k h) 6 np nm nc nt ns nh := by
  have h60 := hI.p60
  have h20 := hI.m20
  refine hR.pm hI (fun i hi => addF_o hn (by omega)) (by rw [udA_ne (by omega)]; exact hR.1.2.2.2.2.1) (by rw [udA_ne (by omega)]; exact hR.1.2.2.2.2.2.1) (fun k _ _ => by rw [udA_ne (by omega)]) (fun q h1 h2 h3 => udA_ne (by omega)) (fun q h1 h2 h3 => shtA_o (by omega)) (fun p' hp' => ?_) (fun k' hk' => ?_)
  · exact ((hR.pr hp').keep (fun r h1 h2 => ⟨udA_ne (by omega), shtA_o (by omega)⟩)).cong (wp_p hI.wp (by omega)) (fun i h1 h2 => addF_o hn (by omega))
  · by_cases e : k' = p
    · subst e
      obtain ⟨a3, ⟨a4, a5, a6, a7⟩, a8, a9⟩ := hR.ma hk'
      rw [hc] at a3
      refine ⟨?_, ⟨?_, ?_, ?_, ?_⟩, ?_, ?_⟩
      · rw [addF_a, show cN (nI (n + 1)) = n + 1 from nI_clamp (by omega)]
        exact a3.add hn
      · rw [udA_t, upd_ne (by decide), addF_o hn (by omega)]; exact a4
      · rw [udA_t, upd_ne (by decide), addF_o hn (by omega)]; exact a5
      · rw [udA_t, upd_ne (by decide), addF_o hn (by omega)]; exact a6
      · rw [udA_t, upd_ne (by decide), addF_o hn (by omega)]; exact a7
      · rw [udA_ne (by omega), addF_o hn (by omega)]; exact a8
      · rw [udA_ne (by omega), addF_o hn (by omega)]; exact a9
    · exact ((hR.ma hk').keep (fun r h1 h2 => ⟨udA_ne (by omega), shtA_o (by omega)⟩)).cong (wp_m hI.wp (by omega)) (fun i h1 h2 => addF_o hn (by omega))
theorem IV.addM {p n : Nat} {x y k h : Int32} (hI : IV f np nm nc nt ns nh) (hp : p < nm) (hn : n < 8) : IV (addF f (5826 + 39 * p + 6) n x y k h) np nm nc nt ns nh := by
  have h60 := hI.p60
  have h20 := hI.m20
  obtain ⟨⟨c1, c2, _⟩, _, hW, ⟨hp1, hp2⟩, ⟨hm1, hm2⟩, _⟩ := id hI
  refine hI.pm (fun i hi => addF_o hn (by omega)) (by rw [addF_o hn (by omega)]; exact c1) (by rw [addF_o hn (by omega)]; exact c2) (Nat.le_refl _) (Nat.le_refl _) (hW.addM (by omega) hn) ⟨fun p' hp' => CeR_c (fun i h1 h2 => addF_o hn (by omega)) (hp1 p' hp'), fun p' h1 h2 => by rw [addF_o hn (by omega)]; exact hp2 p' h1 h2⟩ ⟨fun k' hk' => by rw [addF_o hn (by omega), addF_o hn (by omega)]; exact hm1 k' hk', fun k' h1 h2 => by rw [addF_o hn (by omega)]; exact hm2 k' h1 h2⟩
end K
section CALLS
variable {g : aG} {d : Nat} {w : aW} {F A : Nat → Nat → Int32} {L : Nat → Int64} {f : Nat → Int32} {np nm nc nt ns nh v : Nat}
theorem c_addFull {q : Nat} {x y z u : Int32} (hq : ShAt q) (h4 : F q 4 = nI 8) (hn : w.1 = N0) : Ev g (d + 1) 61 [.ref q, .int x, .int y, .int z, .int u] (cW w F A L) (RetQ (-1) (cW w F A L)) noX := by
  refine ev_X6_add ?_ (Nat.le_of_ble_eq_true rfl)
  refine x_lo (lo' := [some (.ref q), some (.int x), some (.int y), some (.int z), some (.int u)]) rfl ?_
  refine x_al rfl rfl ?_
  refine x_getC rfl hn (by with_reducible exact sh_0 (by first | assumption | exact sh_turned | exact pr_sh (by first | assumption | exact prA (by omega) | exact prD | exact prB (by assumption) (by omega)) | exact ma_sh (by first | assumption | exact maA (by omega) | exact maB (by assumption) (by omega)))) (by exact rfl) ?_
  rw [h4]
  refine x_c rfl ?_
  refine x_icltN (y := 8) rfl (by omega) (fun c => absurd c (by omega)) (fun c => ?_)
  refine x_c rfl ?_
  refine x_reti rfl (Nat.le_of_ble_eq_true rfl) (Nat.le_of_ble_eq_true rfl) rfl ?_
  exact ⟨rfl, rfl⟩
theorem c_point {p0 x y k h : Int32} (hK : KI F A f np nm v) (hR : RS F A f 6 np nm nc nt ns nh) (hI : IV f np nm nc nt ns nh) (hv : v + 1 < 2 ^ 30) (hn : w.1 = N0) : Ev g (d + 4) 118 [.ref 0, .int p0, .int x, .int y, .int k, .int h] (cW w F A L) (caQ w F A (if okN p0 np = true ∧ ptB x y k h = true ∧ ¬ f (5 + 97 * cN p0 + 64) = 8 then addF f (5 + 97 * cN p0 + 64) (cN (f (5 + 97 * cN p0 + 64))) x y k h else f) v (if okN p0 np = true then (if ptB x y k h = true then 0 else 2) else 1) (some (.int (if okN p0 np = true ∧ ptB x y k h = true then (if f (5 + 97 * cN p0 + 64) = 8 then -1 else f (5 + 97 * cN p0 + 64)) else 0)))) (caX (cW w F A L) (if okN p0 np = true then (if ptB x y k h = true then 0 else 2) else 1) 2 0) := by
  have h60 := hI.p60
  have h20 := hI.m20
  have h16 := hI.c16
  have h10 := hI.t10
  have h200 := hI.s200
  have hh200 := hI.h200
  refine ev_X10_point ?_ (Nat.le_of_ble_eq_true rfl)
  refine x_lo (lo' := [some (.ref 0), some (.int p0), some (.int x), some (.int y), some (.int k), some (.int h)]) rfl ?_
  refine x_al rfl rfl ?_
  refine x_il rfl rfl ?_
  refine x_call2 (c_needPrint hR.1.2.2.2.2.1 (by omega) hn) rfl (Nat.le_of_ble_eq_true rfl) (Or.inl (by first | exact hn | assumption)) (rcv_at (cw_fs (by with_reducible exact sp_0) hn) (by decide) (by decide)) (Nat.le_of_ble_eq_true rfl) (Nat.le_of_ble_eq_true rfl) (fun E w9 hq => ⟨rfl, by obtain ⟨h9, rfl, rfl⟩ := hq; exact ⟨rfl, Or.inl ⟨if_neg (fun h8 => fne h9 h8), rfl⟩⟩⟩) ?_
  rintro v9 w9 ⟨h1, rfl, rfl⟩
  refine x_il rfl rfl ?_
  refine x_il rfl rfl ?_
  refine x_il rfl rfl ?_
  refine x_il rfl rfl ?_
  refine x_call4 (c_needPoint hn) rfl (Nat.le_of_ble_eq_true rfl) (Or.inl (by first | exact hn | assumption)) trivial (Nat.le_of_ble_eq_true rfl) (Nat.le_of_ble_eq_true rfl) (fun E w9 hq => ⟨rfl, by obtain ⟨h9, rfl, rfl⟩ := hq; exact ⟨rfl, Or.inr ⟨by rw [if_pos h1, if_neg (fne h9)], rfl⟩⟩⟩) ?_
  rintro v9 w9 ⟨h2, rfl, rfl⟩
  refine x_al rfl rfl ?_
  refine x_getC rfl hn (by with_reducible exact sp_0) (by exact rfl) ?_
  obtain ⟨p, hp, rfl, ep⟩ := ok_of h1 (by omega)
  rw [ep, if_pos h1, if_pos h2, if_pos (show okN (nI p) np = true ∧ ptB x y k h = true from ⟨h1, h2⟩)]
  have hcnt := hI.wp.1 p (by omega)
  generalize hcc : cN (f (5 + 97 * p + 64)) = n at *
  obtain ⟨hcn, hc8⟩ := hcnt
  refine x_call1 (c_forget (v := v) hK.1 hn) rfl (Nat.le_of_ble_eq_true rfl) (Or.inl (by first | exact hn | assumption)) (rcv_at (cw_fs (by with_reducible exact sp_1396) hn) (by decide) (by decide)) (Nat.le_of_ble_eq_true rfl) (Nat.le_of_ble_eq_true rfl) (fun E w9 hq => hq.elim) ?_
  rintro v9 w9 ⟨rfl, rfl⟩
  refine x_al rfl rfl ?_
  refine x_getC rfl hn (by with_reducible exact sp_0) (by exact rfl) ?_
  refine x_getC rfl hn (by with_reducible exact (by first | exact sp_6 | exact st_0 (by assumption))) (by exact rfl) ?_
  have hR1 : RS (udA F 1396 (upd (F 1396) 11 (nI (v + 1)))) A f 6 np nm nc nt ns nh := hR.keep hI (fun q h1 h2 => ⟨udA_ne (by omega), rfl⟩)
  have hL := (hR1.pr hp).2.2.1.1
  rw [hcc] at hL
  refine x_il rfl rfl ?_
  refine x_aaC rfl hn (by with_reducible exact sp_7) (by decide) (by omega) ?_
  refine x_getC rfl hn (by with_reducible exact pr_0 (by first | assumption | exact prA (by omega) | exact prD | exact prB (by assumption) (by omega))) (by exact rfl) ?_
  refine x_il rfl rfl ?_
  refine x_il rfl rfl ?_
  refine x_il rfl rfl ?_
  refine x_il rfl rfl ?_
  by_cases h8 : n = 8
  · subst h8
    have e8 : f (5 + 97 * p + 64) = 8 := hcn
    rw [if_neg (fun h => h.2.2 e8), if_pos e8]
    refine x_call5 (c_addFull (pr_sh (prA (by omega))) hL hn) rfl (Nat.le_of_ble_eq_true rfl) (Or.inl (by first | exact hn | assumption)) (rcv_at (cw_fs (by with_reducible exact sh_0 (by first | assumption | exact sh_turned | exact pr_sh (by first | assumption | exact prA (by omega) | exact prD | exact prB (by assumption) (by omega)) | exact ma_sh (by first | assumption | exact maA (by omega) | exact maB (by assumption) (by omega)))) hn) (by decide) (by decide)) (Nat.le_of_ble_eq_true rfl) (Nat.le_of_ble_eq_true rfl) (fun E w9 hq => hq.elim) ?_
    rintro v9 w9 ⟨rfl, rfl⟩
    refine x_reti rfl (Nat.le_of_ble_eq_true rfl) (Nat.le_of_ble_eq_true rfl) rfl ?_
    exact ca_st hR1 hI (hK.forget hv (by rw [udA_t, upd_at]) rfl) (Nat.le_refl _) (fun q hq => ⟨udA_ne (by omega), rfl⟩) rfl rfl
  · have e8 : ¬ f (5 + 97 * p + 64) = 8 := fun h => h8 ((nI_eq (a := n) (b := 8) (by omega) (by omega)).mp (hcn.symm.trans h))
    rw [if_pos ⟨h1, h2, e8⟩, if_neg e8]
    refine x_call5 (c_add (pr_sh (prA (by omega))) hL (by omega) hn) rfl (Nat.le_of_ble_eq_true rfl) (Or.inl (by first | exact hn | assumption)) (rcv_at (cw_fs (by with_reducible exact sh_0 (by first | assumption | exact sh_turned | exact pr_sh (by first | assumption | exact prA (by omega) | exact prD | exact prB (by assumption) (by omega)) | exact ma_sh (by first | assumption | exact maA (by omega) | exact maB (by assumption) (by omega)))) hn) (by decide) (by decide)) (Nat.le_of_ble_eq_true rfl) (Nat.le_of_ble_eq_true rfl) (fun E w9 hq => hq.elim) ?_
    rintro v9 w9 ⟨rfl, rfl⟩
    refine x_reti rfl (Nat.le_of_ble_eq_true rfl) (Nat.le_of_ble_eq_true rfl) rfl ?_
    exact ca_st (hR1.addP hI hp hcc (by omega)) (hI.addP hp (by omega)) (hK.forget hv (by rw [udA_ne (by omega), udA_t, upd_at]) (shtA_o (by omega))) (Nat.le_refl _) (fun q hq => ⟨by rw [udA_ne (by omega), udA_ne (by omega)], shtA_o (by omega)⟩) (by rw [hcn]) rfl
theorem c_spot {p0 x y k h : Int32} (hK : KI F A f np nm v) (hR : RS F A f 6 np nm nc nt ns nh) (hI : IV f np nm nc nt ns nh) (hv : v + 1 < 2 ^ 30) (hn : w.1 = N0) : Ev g (d + 4) 120 [.ref 0, .int p0, .int x, .int y, .int k, .int h] (cW w F A L) (caQ w F A (if okN p0 nm = true ∧ ptB x y k h = true ∧ ¬ f (5826 + 39 * cN p0 + 6) = 8 then addF f (5826 + 39 * cN p0 + 6) (cN (f (5826 + 39 * cN p0 + 6))) x y k h else f) v (if okN p0 nm = true then (if ptB x y k h = true then 0 else 2) else 1) (some (.int (if okN p0 nm = true ∧ ptB x y k h = true then (if f (5826 + 39 * cN p0 + 6) = 8 then -1 else f (5826 + 39 * cN p0 + 6)) else 0)))) (caX (cW w F A L) (if okN p0 nm = true then (if ptB x y k h = true then 0 else 2) else 1) 2 0) := by
  have h60 := hI.p60
  have h20 := hI.m20
  have h16 := hI.c16
  have h10 := hI.t10
  have h200 := hI.s200
  have hh200 := hI.h200
  refine ev_X10_spot ?_ (Nat.le_of_ble_eq_true rfl)
  refine x_lo (lo' := [some (.ref 0), some (.int p0), some (.int x), some (.int y), some (.int k), some (.int h)]) rfl ?_
  refine x_al rfl rfl ?_
  refine x_il rfl rfl ?_
  refine x_call2 (c_needMark hR.1.2.2.2.2.2.1 (by omega) hn) rfl (Nat.le_of_ble_eq_true rfl) (Or.inl (by first | exact hn | assumption)) (rcv_at (cw_fs (by with_reducible exact sp_0) hn) (by decide) (by decide)) (Nat.le_of_ble_eq_true rfl) (Nat.le_of_ble_eq_true rfl) (fun E w9 hq => ⟨rfl, by obtain ⟨h9, rfl, rfl⟩ := hq; exact ⟨rfl, Or.inl ⟨if_neg (fun h8 => fne h9 h8), rfl⟩⟩⟩) ?_
  rintro v9 w9 ⟨h1, rfl, rfl⟩
  refine x_il rfl rfl ?_
  refine x_il rfl rfl ?_
  refine x_il rfl rfl ?_
  refine x_il rfl rfl ?_
  refine x_call4 (c_needPoint hn) rfl (Nat.le_of_ble_eq_true rfl) (Or.inl (by first | exact hn | assumption)) trivial (Nat.le_of_ble_eq_true rfl) (Nat.le_of_ble_eq_true rfl) (fun E w9 hq => ⟨rfl, by obtain ⟨h9, rfl, rfl⟩ := hq; exact ⟨rfl, Or.inr ⟨by rw [if_pos h1, if_neg (fne h9)], rfl⟩⟩⟩) ?_
  rintro v9 w9 ⟨h2, rfl, rfl⟩
  refine x_al rfl rfl ?_
  refine x_getC rfl hn (by with_reducible exact sp_0) (by exact rfl) ?_
  obtain ⟨p, hp, rfl, ep⟩ := ok_of h1 (by omega)
  rw [ep, if_pos h1, if_pos h2, if_pos (show okN (nI p) nm = true ∧ ptB x y k h = true from ⟨h1, h2⟩)]
  have hcnt := hI.wp.2 p (by omega)
  generalize hcc : cN (f (5826 + 39 * p + 6)) = n at *
  obtain ⟨hcn, hc8⟩ := hcnt
  refine x_call1 (c_forget (v := v) hK.1 hn) rfl (Nat.le_of_ble_eq_true rfl) (Or.inl (by first | exact hn | assumption)) (rcv_at (cw_fs (by with_reducible exact sp_1396) hn) (by decide) (by decide)) (Nat.le_of_ble_eq_true rfl) (Nat.le_of_ble_eq_true rfl) (fun E w9 hq => hq.elim) ?_
  rintro v9 w9 ⟨rfl, rfl⟩
  refine x_al rfl rfl ?_
  refine x_getC rfl hn (by with_reducible exact sp_0) (by exact rfl) ?_
  refine x_getC rfl hn (by with_reducible exact (by first | exact sp_6 | exact st_0 (by assumption))) (by exact rfl) ?_
  have hR1 : RS (udA F 1396 (upd (F 1396) 11 (nI (v + 1)))) A f 6 np nm nc nt ns nh := hR.keep hI (fun q h1 h2 => ⟨udA_ne (by omega), rfl⟩)
  have hL := (hR1.ma hp).1.1
  rw [hcc] at hL
  refine x_il rfl rfl ?_
  refine x_aaC rfl hn (by with_reducible exact sp_8) (by decide) (by omega) ?_
  refine x_getC rfl hn (by with_reducible exact ma_0 (by first | assumption | exact maA (by omega) | exact maB (by assumption) (by omega))) (by exact rfl) ?_
  refine x_il rfl rfl ?_
  refine x_il rfl rfl ?_
  refine x_il rfl rfl ?_
  refine x_il rfl rfl ?_
  by_cases h8 : n = 8
  · subst h8
    have e8 : f (5826 + 39 * p + 6) = 8 := hcn
    rw [if_neg (fun h => h.2.2 e8), if_pos e8]
    refine x_call5 (c_addFull (ma_sh (maA (by omega))) hL hn) rfl (Nat.le_of_ble_eq_true rfl) (Or.inl (by first | exact hn | assumption)) (rcv_at (cw_fs (by with_reducible exact sh_0 (by first | assumption | exact sh_turned | exact pr_sh (by first | assumption | exact prA (by omega) | exact prD | exact prB (by assumption) (by omega)) | exact ma_sh (by first | assumption | exact maA (by omega) | exact maB (by assumption) (by omega)))) hn) (by decide) (by decide)) (Nat.le_of_ble_eq_true rfl) (Nat.le_of_ble_eq_true rfl) (fun E w9 hq => hq.elim) ?_
    rintro v9 w9 ⟨rfl, rfl⟩
    refine x_reti rfl (Nat.le_of_ble_eq_true rfl) (Nat.le_of_ble_eq_true rfl) rfl ?_
    exact ca_st hR1 hI (hK.forget hv (by rw [udA_t, upd_at]) rfl) (Nat.le_refl _) (fun q hq => ⟨udA_ne (by omega), rfl⟩) rfl rfl
  · have e8 : ¬ f (5826 + 39 * p + 6) = 8 := fun h => h8 ((nI_eq (a := n) (b := 8) (by omega) (by omega)).mp (hcn.symm.trans h))
    rw [if_pos ⟨h1, h2, e8⟩, if_neg e8]
    refine x_call5 (c_add (ma_sh (maA (by omega))) hL (by omega) hn) rfl (Nat.le_of_ble_eq_true rfl) (Or.inl (by first | exact hn | assumption)) (rcv_at (cw_fs (by with_reducible exact sh_0 (by first | assumption | exact sh_turned | exact pr_sh (by first | assumption | exact prA (by omega) | exact prD | exact prB (by assumption) (by omega)) | exact ma_sh (by first | assumption | exact maA (by omega) | exact maB (by assumption) (by omega)))) hn) (by decide) (by decide)) (Nat.le_of_ble_eq_true rfl) (Nat.le_of_ble_eq_true rfl) (fun E w9 hq => hq.elim) ?_
    rintro v9 w9 ⟨rfl, rfl⟩
    refine x_reti rfl (Nat.le_of_ble_eq_true rfl) (Nat.le_of_ble_eq_true rfl) rfl ?_
    exact ca_st (hR1.addM hI hp hcc (by omega)) (hI.addM hp (by omega)) (hK.forget hv (by rw [udA_ne (by omega), udA_t, upd_at]) (shtA_o (by omega))) (Nat.le_refl _) (fun q hq => ⟨by rw [udA_ne (by omega), udA_ne (by omega)], shtA_o (by omega)⟩) (by rw [hcn]) rfl
end CALLS
