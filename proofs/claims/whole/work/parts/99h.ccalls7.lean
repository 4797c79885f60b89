/-! mark, card; cw_ -/
theorem fi_z (b : Bool) : fits .boolean (.int (bI b)) = true := by cases b <;> rfl
section CALLS
variable {g : aG} {d : Nat} {w : aW} {F A : Nat → Nat → Int32} {L : Nat → Int64} {f : Nat → Int32} {np nm nc nt ns nh v : Nat}
theorem c_mark {x0 y0 x1 y1 : Int32} {gr : Bool} (hK : KI F A f np nm v) (hR : RS F A f 6 np nm nc nt ns nh) (hI : IV f np nm nc nt ns nh) (hn : w.1 = N0) : Ev g (d + 3) 119 [.ref 0, .int x0, .int y0, .int x1, .int y1, .int (bI gr)] (cW w F A L) (caQ w F A (if (spB x0 x1 = true ∧ spB y0 y1 = true) ∧ ¬ nm = 20 then markF f nm x0 y0 x1 y1 gr else f) v (if spB x0 x1 = true ∧ spB y0 y1 = true then (if nm = 20 then 2 else 0) else 1) (some (.int (if (spB x0 x1 = true ∧ spB y0 y1 = true) ∧ ¬ nm = 20 then nI nm else 0)))) (caX (cW w F A L) (if spB x0 x1 = true ∧ spB y0 y1 = true then (if nm = 20 then 2 else 0) else 1) 0 1) := by
  have h60 := hI.p60
  have h20 := hI.m20
  have h16 := hI.c16
  have h10 := hI.t10
  have h200 := hI.s200
  have hh200 := hI.h200
  have hz : bI gr &&& 1 = bI gr := bI_01 gr
  have e5 : F 6 5 = nI nm := hR.1.2.2.2.2.2.1
  have no : ¬ (spB x0 x1 = true ∧ spB y0 y1 = true) → EX g mbOf (Ev g (d + 2)) (infoOf 119) k_X10_mark (caQ w F A (if (spB x0 x1 = true ∧ spB y0 y1 = true) ∧ ¬ nm = 20 then markF f nm x0 y0 x1 y1 gr else f) v (if spB x0 x1 = true ∧ spB y0 y1 = true then (if nm = 20 then 2 else 0) else 1) (some (.int (if (spB x0 x1 = true ∧ spB y0 y1 = true) ∧ ¬ nm = 20 then nI nm else 0)))) (caX (cW w F A L) (if spB x0 x1 = true ∧ spB y0 y1 = true then (if nm = 20 then 2 else 0) else 1) 0 1) w.1 (cW w F A L) 0 0 8 [some (.ref 0), some (.int x0), some (.int y0), some (.int x1), some (.int y1), some (.int (bI gr)), none] [] := by
    intro h
    refine x_thr rfl hn rfl (Nat.le_of_ble_eq_true rfl) (Nat.le_of_ble_eq_true rfl) (Nat.le_of_ble_eq_true rfl) ?_
    exact ⟨rfl, Or.inl ⟨if_neg h, rfl⟩⟩
  refine ev_X10_mark ?_ (Nat.le_of_ble_eq_true rfl)
  refine x_lo (lo' := [some (.ref 0), some (.int x0), some (.int y0), some (.int x1), some (.int y1), some (.int (bI gr)), none]) rfl ?_
  refine x_il rfl rfl ?_
  refine x_il rfl rfl ?_
  refine x_call2 (c_isSpan) rfl (Nat.le_of_ble_eq_true rfl) (Or.inl (by first | exact hn | assumption)) trivial (Nat.le_of_ble_eq_true rfl) (Nat.le_of_ble_eq_true rfl) (fun E w9 hq => hq.elim) ?_
  rintro v9 w9 ⟨rfl, rfl⟩
  rcases Classical.em (¬ spB x0 x1 = true) with h1 | h1
  · refine x_ifeq rfl (fun e9 => ?_) (fun e9 => absurd (bI_z.mpr ((Bool.not_eq_true _).mp h1)) e9)
    exact no (fun h => h1 h.1)
  have h1 := Classical.not_not.mp h1
  refine x_ifeq rfl (fun e9 => absurd (h1.symm.trans (bI_z.mp e9)) (by decide)) (fun e9 => ?_)
  refine x_il rfl rfl ?_
  refine x_il rfl rfl ?_
  refine x_call2 (c_isSpan) rfl (Nat.le_of_ble_eq_true rfl) (Or.inl (by first | exact hn | assumption)) trivial (Nat.le_of_ble_eq_true rfl) (Nat.le_of_ble_eq_true rfl) (fun E w9 hq => hq.elim) ?_
  rintro v9 w9 ⟨rfl, rfl⟩
  rcases Classical.em (¬ spB y0 y1 = true) with h2 | h2
  · refine x_ifne rfl (fun e9 => absurd (bI_z.mpr ((Bool.not_eq_true _).mp h2)) e9) (fun e9 => ?_)
    exact no (fun h => h2 h.2)
  have h2 := Classical.not_not.mp h2
  refine x_ifne rfl (fun e9 => ?_) (fun e9 => absurd (h2.symm.trans (bI_z.mp e9)) (by decide))
  refine x_al rfl rfl ?_
  refine x_getC rfl hn (by with_reducible exact sp_0) (by exact rfl) ?_
  refine x_getC rfl hn (by with_reducible exact (by first | exact sp_6 | exact st_0 (by assumption))) (by exact rfl) ?_
  rw [e5]
  refine x_c rfl ?_
  refine x_icltN (y := 20) rfl (by omega) (fun c1 => ?_) (fun c1 => ?_)
  rotate_left
  · skip
    obtain rfl : nm = 20 := by omega
    refine x_thr rfl hn rfl (Nat.le_of_ble_eq_true rfl) (Nat.le_of_ble_eq_true rfl) (Nat.le_of_ble_eq_true rfl) ?_
    exact ⟨rfl, Or.inr ⟨by rw [if_pos ⟨h1, h2⟩, if_pos rfl], rfl⟩⟩
  refine x_al rfl rfl ?_
  refine x_getC rfl hn (by with_reducible exact sp_0) (by exact rfl) ?_
  refine x_getC rfl hn (by with_reducible exact (by first | exact sp_6 | exact st_0 (by assumption))) (by exact rfl) ?_
  refine x_al rfl rfl ?_
  refine x_getC rfl hn (by with_reducible exact sp_0) (by exact rfl) ?_
  refine x_getC rfl hn (by with_reducible exact (by first | exact sp_6 | exact st_0 (by assumption))) (by exact rfl) ?_
  rw [e5]
  refine x_aaC rfl hn (by with_reducible exact sp_8) (by decide) (by omega) ?_
  refine x_as (lo' := [_, _, _, _, _, _, _]) rfl (Nat.le_of_ble_eq_true rfl) rfl ?_
  refine x_al rfl rfl ?_
  refine x_getC rfl hn (by with_reducible exact ma_0 (by first | assumption | exact maA (by omega) | exact maB (by assumption) (by omega))) (by exact rfl) ?_
  refine x_il rfl rfl ?_
  refine x_il rfl rfl ?_
  refine x_il rfl rfl ?_
  refine x_il rfl rfl ?_
  refine x_call5 (c_begin (ma_sh (maA c1)) hn) rfl (Nat.le_of_ble_eq_true rfl) (Or.inl (by first | exact hn | assumption)) (rcv_at (cw_fs (by with_reducible exact sh_0 (by first | assumption | exact sh_turned | exact pr_sh (by first | assumption | exact prA (by omega) | exact prD | exact prB (by assumption) (by omega)) | exact ma_sh (by first | assumption | exact maA (by omega) | exact maB (by assumption) (by omega)))) hn) (by decide) (by decide)) (Nat.le_of_ble_eq_true rfl) (Nat.le_of_ble_eq_true rfl) (fun E w9 hq => hq.elim) ?_
  rintro v9 w9 ⟨rfl, rfl⟩
  refine x_al rfl rfl ?_
  refine x_il rfl rfl ?_
  refine x_putC rfl hn (by with_reducible exact ma_0 (by first | assumption | exact maA (by omega) | exact maB (by assumption) (by omega))) (by exact rfl) (by first | rfl | exact nr_z (by assumption)) (by first | rfl | exact fi_z _) ?_
  refine x_al rfl rfl ?_
  refine x_al rfl rfl ?_
  refine x_getC rfl hn (by with_reducible exact sp_0) (by exact rfl) ?_
  refine x_getC rfl hn (by with_reducible exact (by first | exact sp_6 | exact st_0 (by assumption))) (by exact rfl) ?_
  rw [udA_ne (show 6 ≠ 441 + 6 * nm by omega), udA_ne (show 6 ≠ 441 + 6 * nm + 1 by omega), show F 6 0 = f 0 from hR.1.1]
  refine x_putC rfl hn (by with_reducible exact ma_0 (by first | assumption | exact maA (by omega) | exact maB (by assumption) (by omega))) (by exact rfl) (by first | rfl | exact nr_z (by assumption)) (by first | rfl | exact fi_z _) ?_
  rw [udA_udA, udA_t, udA_ne (show 441 + 6 * nm ≠ 441 + 6 * nm + 1 by omega)]
  generalize hF3 : udA (udA F (441 + 6 * nm + 1) (shtB (F (441 + 6 * nm + 1)) x0 y0 x1 y1)) (441 + 6 * nm) (upd (upd (F (441 + 6 * nm)) 1 (bI gr)) 2 (f 0)) = F3
  have gM : F3 (441 + 6 * nm) = upd (upd (F (441 + 6 * nm)) 1 (bI gr)) 2 (f 0) := by rw [← hF3, udA_t]
  have gS : F3 (441 + 6 * nm + 1) = shtB (F (441 + 6 * nm + 1)) x0 y0 x1 y1 := by rw [← hF3, udA_ne (by omega), udA_t]
  have go : ∀ q, q ≠ 441 + 6 * nm → q ≠ 441 + 6 * nm + 1 → F3 q = F q := fun q h1 h2 => by rw [← hF3, udA_ne h1, udA_ne h2]
  refine x_al rfl rfl ?_
  refine x_getC rfl hn (by with_reducible exact sp_0) (by exact rfl) ?_
  refine x_dup rfl rfl ?_
  refine x_getC rfl hn (by with_reducible exact (by first | exact sp_6 | exact st_0 (by assumption))) (by exact rfl) ?_
  rw [go 6 (by omega) (by omega), e5]
  refine x_c rfl ?_
  refine x_addN (y := 1) rfl ?_
  refine x_putC rfl hn (by with_reducible exact (by first | exact sp_6 | exact st_0 (by assumption))) (by exact rfl) (by first | rfl | exact nr_z (by assumption)) (by first | rfl | exact fi_z _) ?_
  refine x_al rfl rfl ?_
  refine x_getC rfl hn (by with_reducible exact sp_0) (by exact rfl) ?_
  refine x_getC rfl hn (by with_reducible exact (by first | exact sp_6 | exact st_0 (by assumption))) (by exact rfl) ?_
  rw [udA_t, upd_at]
  refine x_c rfl ?_
  first | refine x_subN (y := 1) rfl (by omega) ?_ | refine x_sub rfl ?_
  refine x_reti rfl (Nat.le_of_ble_eq_true rfl) (Nat.le_of_ble_eq_true rfl) rfl ?_
  rw [if_pos (show (spB x0 x1 = true ∧ spB y0 y1 = true) ∧ ¬ nm = 20 from ⟨⟨h1, h2⟩, by omega⟩), if_pos (show (spB x0 x1 = true ∧ spB y0 y1 = true) ∧ ¬ nm = 20 from ⟨⟨h1, h2⟩, by omega⟩)]
  have hm1 : ¬ nm = 20 := by omega
  rw [go 6 (by omega) (by omega)]
  have hFm : ∀ q, q ≠ 441 + 6 * nm → q ≠ 441 + 6 * nm + 1 → q ≠ 6 → udA F3 6 (upd (F 6) 5 (nI (nm + 1))) q = F q := fun q h1 h2 h3 => by rw [udA_ne h3, go q h1 h2]
  obtain ⟨m0, m1, m2, m3, m4, m5, m6⟩ := markF_at (f := f) (k := nm) (x0 := x0) (y0 := y0) (x1 := x1) (y1 := y1) (gr := gr)
  obtain ⟨t0, ht0, et0⟩ := hI.2.1.1
  obtain ⟨⟨i1, i2, _⟩, _, hW, ⟨hp1, hp2⟩, ⟨hm1', hm2⟩, _⟩ := id hI
  refine ca_st (np' := np) (nm' := nm + 1) (nc' := nc) (nt' := nt) (ns' := ns) (nh' := nh) (v' := v) (hR.pm hI (fun i hi => markF_o (by omega) (by omega)) ?_ ?_ (fun k h4 h5 => ?_) (fun q h1 h2 h3 => hFm q (by omega) (by omega) (by omega)) (fun _ _ _ _ => rfl) (fun p hp => ?_) (fun k hk => ?_)) (hI.pm (fun i hi => markF_o (by omega) (by omega)) (by rw [markF_o (by omega) (by omega)]; exact i1) ⟨m0, by omega⟩ (Nat.le_refl _) (Nat.le_succ _) ⟨fun p hp => by rw [markF_o (by omega) (by omega)]; exact hW.1 p hp, fun k hk => by rw [markF_o (by omega) (by omega)]; exact hW.2 k hk⟩ ⟨fun p hp => CeR_c (fun i h1 h2 => markF_o (by omega) (by omega)) (hp1 p hp), fun p h1 h2 => by rw [markF_o (by omega) (by omega)]; exact hp2 p h1 h2⟩ ⟨fun k hk => ?_, fun k h1 h2 => by rw [markF_o (by omega) (by omega)]; exact hm2 k (by omega) h2⟩) ((hK.cong (f' := markF f nm x0 y0 x1 y1 gr) (np' := np) (nm' := nm + 1) ⟨markF_o (by omega) (by omega), fun p hp i h1 h2 => markF_o (by omega) (by omega), fun k hk i h1 h2 => markF_o (by omega) (by omega)⟩ hW h60 h20 (Nat.le_refl _) (Nat.le_succ _)).keepC (by rw [hFm 1396 (by omega) (by omega) (by omega)]) rfl) (Nat.le_succ _) (fun q hq => ⟨hFm q (by omega) (by omega) (by omega), rfl⟩) ?_ ?_
  · rw [udA_t, upd_ne (by decide)]; exact hR.1.2.2.2.2.1
  · rw [udA_t, upd_at]
  · rw [udA_t, upd_ne h5]
  · exact ((hR.pr hp).keep (fun r h1 h2 => ⟨hFm r (by omega) (by omega) (by omega), rfl⟩)).cong (wp_p hW (by omega)) (fun i h1 h2 => markF_o (by omega) (by omega))
  · by_cases e : k = nm
    · subst e
      have z : markF f k x0 y0 x1 y1 gr (5826 + 39 * k + 6) = 0 := by rw [markF_o (by omega) (by omega)]; exact hm2 k (Nat.le_refl _) (by omega)
      refine ⟨?_, ⟨?_, ?_, ?_, ?_⟩, ?_, ?_⟩
      · rw [z]
        refine ⟨?_, fun j hj => absurd hj (by rw [show cN 0 = 0 from rfl]; omega)⟩
        rw [udA_ne (by omega), gS]
        rfl
      · rw [udA_ne (by omega), gS, m2]; rfl
      · rw [udA_ne (by omega), gS, m3]; rfl
      · rw [udA_ne (by omega), gS, m4]; rfl
      · rw [udA_ne (by omega), gS, m5]; rfl
      · rw [udA_ne (by omega), gM, upd_ne (by decide), upd_at, m6]
      · rw [udA_ne (by omega), gM, upd_at, m1]
    · exact ((hR.ma (by omega)).keep (fun r h1 h2 => ⟨hFm r (by omega) (by omega) (by omega), rfl⟩)).cong (wp_m hW (by omega)) (fun i h1 h2 => markF_o (by omega) (by omega))
  · by_cases e : k = nm
    · subst e
      rw [m1, m6]
      exact ⟨⟨t0, ht0, et0⟩, gr, rfl⟩
    · rw [markF_o (by omega) (by omega), markF_o (by omega) (by omega)]; exact hm1' k (by omega)
  · exact rfl
  · rw [if_pos ⟨h1, h2⟩, if_neg hm1]
theorem c_card {x : Int32} (hK : KI F A f np nm v) (hR : RS F A f 6 np nm nc nt ns nh) (hI : IV f np nm nc nt ns nh) (hn : w.1 = N0) : Ev g (d + 3) 123 [.ref 0, .int x] (cW w F A L) (caQ w F A (if okN x 10000 = true ∧ ¬ nc = 16 then cardF f nc x else f) v (if okN x 10000 = true then (if nc = 16 then 2 else 0) else 1) (some (.int (if okN x 10000 = true ∧ ¬ nc = 16 then nI nc else 0)))) (caX (cW w F A L) (if okN x 10000 = true then (if nc = 16 then 2 else 0) else 1) 0 1) := by
  have h60 := hI.p60
  have h20 := hI.m20
  have h16 := hI.c16
  have h10 := hI.t10
  have h200 := hI.s200
  have hh200 := hI.h200
  have e6 : F 6 6 = nI nc := hR.1.2.2.2.2.2.2.1
  have no : okN x 10000 = false → EX g mbOf (Ev g (d + 2)) (infoOf 123) k_X10_card (caQ w F A (if okN x 10000 = true ∧ ¬ nc = 16 then cardF f nc x else f) v (if okN x 10000 = true then (if nc = 16 then 2 else 0) else 1) (some (.int (if okN x 10000 = true ∧ ¬ nc = 16 then nI nc else 0)))) (caX (cW w F A L) (if okN x 10000 = true then (if nc = 16 then 2 else 0) else 1) 0 1) w.1 (cW w F A L) 0 0 5 [some (.ref 0), some (.int x)] [] := by
    intro h
    refine x_thr rfl hn rfl (Nat.le_of_ble_eq_true rfl) (Nat.le_of_ble_eq_true rfl) (Nat.le_of_ble_eq_true rfl) ?_
    exact ⟨rfl, Or.inl ⟨if_neg (fne h), rfl⟩⟩
  refine ev_X10_card ?_ (Nat.le_of_ble_eq_true rfl)
  refine x_lo (lo' := [some (.ref 0), some (.int x)]) rfl ?_
  refine x_il rfl rfl ?_
  refine x_iflt rfl (fun c1 => ?_) (fun c1 => ?_)
  · skip
    exact no (c_noN1 c1)
  refine x_il rfl rfl ?_
  refine x_c rfl ?_
  refine x_icle rfl (fun c2 => ?_) (fun c2 => ?_)
  rotate_left
  · skip
    exact no (ge_no2 (n := 10000) rfl (by decide) c2)
  have h1 : okN x 10000 = true := ge_ok2 (n := 10000) rfl (by decide) c1 c2
  refine x_al rfl rfl ?_
  refine x_getC rfl hn (by with_reducible exact sp_0) (by exact rfl) ?_
  refine x_getC rfl hn (by with_reducible exact (by first | exact sp_6 | exact st_0 (by assumption))) (by exact rfl) ?_
  rw [e6]
  refine x_c rfl ?_
  refine x_icltN (y := 16) rfl (by omega) (fun c3 => ?_) (fun c3 => ?_)
  rotate_left
  · skip
    obtain rfl : nc = 16 := by omega
    refine x_thr rfl hn rfl (Nat.le_of_ble_eq_true rfl) (Nat.le_of_ble_eq_true rfl) (Nat.le_of_ble_eq_true rfl) ?_
    exact ⟨rfl, Or.inr ⟨by rw [if_pos h1, if_pos rfl], rfl⟩⟩
  refine x_al rfl rfl ?_
  refine x_getC rfl hn (by with_reducible exact sp_0) (by exact rfl) ?_
  refine x_getC rfl hn (by with_reducible exact (by first | exact sp_6 | exact st_0 (by assumption))) (by exact rfl) ?_
  refine x_al rfl rfl ?_
  refine x_getC rfl hn (by with_reducible exact sp_0) (by exact rfl) ?_
  refine x_getC rfl hn (by with_reducible exact (by first | exact sp_6 | exact st_0 (by assumption))) (by exact rfl) ?_
  rw [e6]
  refine x_aaC rfl hn (by with_reducible exact sp_9) (by decide) (by omega) ?_
  refine x_il rfl rfl ?_
  refine x_al rfl rfl ?_
  refine x_getC rfl hn (by with_reducible exact sp_0) (by exact rfl) ?_
  refine x_getC rfl hn (by with_reducible exact (by first | exact sp_6 | exact st_0 (by assumption))) (by exact rfl) ?_
  rw [show F 6 0 = f 0 from hR.1.1]
  refine x_call3 (c_beginCard (caA c3) hn) rfl (Nat.le_of_ble_eq_true rfl) (Or.inl (by first | exact hn | assumption)) (rcv_at (cw_fs (by with_reducible exact ca_0 (by first | assumption | exact caA (by omega) | exact caB (by assumption) (by omega))) hn) (by decide) (by decide)) (Nat.le_of_ble_eq_true rfl) (Nat.le_of_ble_eq_true rfl) (fun E w9 hq => hq.elim) ?_
  rintro v9 w9 ⟨rfl, A1, rfl, b1, b2, b3⟩
  refine x_al rfl rfl ?_
  refine x_getC rfl hn (by with_reducible exact sp_0) (by exact rfl) ?_
  refine x_dup rfl rfl ?_
  refine x_getC rfl hn (by with_reducible exact (by first | exact sp_6 | exact st_0 (by assumption))) (by exact rfl) ?_
  rw [udA_ne (show 6 ≠ 561 + 5 * nc by omega), e6]
  refine x_c rfl ?_
  refine x_addN (y := 1) rfl ?_
  refine x_putC rfl hn (by with_reducible exact (by first | exact sp_6 | exact st_0 (by assumption))) (by exact rfl) (by first | rfl | exact nr_z (by assumption)) (by first | rfl | exact fi_z _) ?_
  refine x_al rfl rfl ?_
  refine x_getC rfl hn (by with_reducible exact sp_0) (by exact rfl) ?_
  refine x_getC rfl hn (by with_reducible exact (by first | exact sp_6 | exact st_0 (by assumption))) (by exact rfl) ?_
  rw [udA_t, show upd (udA F (561 + 5 * nc) (upd (upd (upd (F (561 + 5 * nc)) 0 x) 1 (f 0)) 2 (-1)) 6) 6 (nI (nc + 1)) 6 = nI (nc + 1) from upd_at]
  refine x_c rfl ?_
  first | refine x_subN (y := 1) rfl (by omega) ?_ | refine x_sub rfl ?_
  refine x_reti rfl (Nat.le_of_ble_eq_true rfl) (Nat.le_of_ble_eq_true rfl) rfl ?_
  rw [udA_ne (show 6 ≠ 561 + 5 * nc by omega)]
  have hm1 : ¬ nc = 16 := by omega
  rw [if_pos (show okN x 10000 = true ∧ ¬ nc = 16 from ⟨h1, hm1⟩), if_pos (show okN x 10000 = true ∧ ¬ nc = 16 from ⟨h1, hm1⟩)]
  have hFm : ∀ q, q ≠ 561 + 5 * nc → q ≠ 6 → udA (udA F (561 + 5 * nc) (upd (upd (upd (F (561 + 5 * nc)) 0 x) 1 (f 0)) 2 (-1))) 6 (upd (F 6) 6 (nI (nc + 1))) q = F q := fun q h1 h2 => by rw [udA_ne h2, udA_ne h1]
  have hco : ∀ i, i ≠ 6606 → (i < 6607 + 26 * nc ∨ 6607 + 26 * nc + 26 ≤ i) → cardF f nc x i = f i := fun i h1 h2 => by rw [cardF_at, if_neg (by omega), if_neg (by omega), if_neg (by omega), if_neg h1]
  have hcm : ∀ i, 2 ≤ i → i < 26 → cardF f nc x (6607 + 26 * nc + i) = -1 := fun i h1 h2 => by rw [cardF_at, if_neg (by omega), if_neg (by omega), if_pos (by omega)]
  have hz := hI.2.2.2.2.2.1.2
  obtain ⟨t0, ht0, et0⟩ := hI.2.1.1
  refine ca_st (np' := np) (nm' := nm) (nc' := nc + 1) (nt' := nt) (ns' := ns) (nh' := nh) (v' := v) (hR.cards hI (fun i hi => hco i (by omega) (by omega)) (by rw [udA_t, upd_at]) (fun k hk => by rw [udA_t, upd_ne hk]) (fun q h1 h2 h3 => hFm q (by omega) (by omega)) (fun q h1 h2 h3 => b3 q (by omega)) (fun c hc => ?_)) (hI.cards (fun i hi => hco i (by omega) (by omega)) (by rw [cardF_at, if_neg (by omega), if_neg (by omega), if_neg (by omega), if_pos rfl]) (by omega) (Nat.le_succ _) (fun c hc => ?_) (fun k c j h1 h2 h3 h4 => by rw [hco _ (by omega) (by omega)]; exact hz k c j h1 (by omega) h3 h4)) ((hK.cong (f' := cardF f nc x) (np' := np) (nm' := nm) (samL_c (fun i hi => hco i (by omega) (by omega)) h60 h20) hI.wp h60 h20 (Nat.le_refl _) (Nat.le_refl _)).keepC (by rw [hFm 1396 (by omega) (by omega)]) (b3 1404 (by omega))) (Nat.le_succ _) (fun q hq => ⟨hFm q (by omega) (by omega), b3 q (by omega)⟩) ?_ ?_
  · by_cases e : c = nc
    · subst e
      refine ⟨⟨?_, ?_, ?_⟩, fun j hj => ⟨?_, ?_, fun k hk => ?_⟩, fun t ht => ?_⟩
      · rw [udA_ne (by omega), udA_t, cardF_at, if_neg (by omega), if_pos (by omega)]; rfl
      · rw [udA_ne (by omega), udA_t, cardF_at, if_pos rfl]; rfl
      · rw [udA_ne (by omega), udA_t, hcm 2 (by omega) (by omega)]; rfl
      · rw [(b1 j hj).1, hcm (6 + j) (by omega) (by omega)]
      · rw [(b1 j hj).2.1, hcm (16 + j) (by omega) (by omega)]
      · rw [(b1 j hj).2.2, bt_0, hco _ (by omega) (by omega), hz k c j hk (Nat.le_refl _) c3 hj, decide_eq_false (fun h => h rfl)]
      · rw [b2 t ht, hcm (3 + t) (by omega) (by omega)]
    · exact ((hR.ca (show c < nc by omega)).keep (fun r h1 h2 => ⟨hFm r (by omega) (by omega), b3 r (by omega)⟩)).cong (fun i h1 h2 => hco i (by omega) (by omega)) (fun k j h1 h2 => by rw [hco _ (by omega) (by omega)])
  · by_cases e : c = nc
    · subst e
      refine ⟨⟨t0, ht0, by rw [cardF_at, if_pos rfl]; exact et0⟩, Or.inl (hcm 2 (by omega) (by omega)), fun t ht => Or.inl (hcm (3 + t) (by omega) (by omega)), fun j hj => ⟨Or.inl (hcm (6 + j) (by omega) (by omega)), Or.inl (hcm (16 + j) (by omega) (by omega))⟩, ?_⟩
      rw [cn_c (P' := fun _ => false) 10 (fun j hj => by rw [hcm (16 + j) (by omega) (by omega)]; rfl)]
      decide
    · obtain ⟨a1, a2, a3, a4, a5⟩ := hI.ca (show c < nc by omega)
      refine ⟨by rw [hco _ (by omega) (by omega)]; exact a1, by rw [hco _ (by omega) (by omega)]; exact a2, fun t ht => by rw [hco _ (by omega) (by omega)]; exact a3 t ht, fun j hj => by rw [hco _ (by omega) (by omega), hco _ (by omega) (by omega)]; exact a4 j hj, ?_⟩
      rw [cn_c (P' := fun j => decide (0 ≤ f (6607 + 26 * c + (16 + j)))) 10 (fun j hj => by rw [hco _ (by omega) (by omega)])]
      exact a5
  · exact rfl
  · rw [if_pos h1, if_neg hm1]
end CALLS
