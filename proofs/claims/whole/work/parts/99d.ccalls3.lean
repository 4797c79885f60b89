/-! more calls that only read; cw_ -/
section CALLS
variable {g : aG} {d : Nat} {w : aW} {F A : Nat → Nat → Int32} {L : Nat → Int64} {f : Nat → Int32} {np nm nc nt ns nh v : Nat}
theorem c_classOf {c j : Nat} {bits : Int32} (hR : RS F A f 6 np nm nc nt ns nh) (hI : IV f np nm nc nt ns nh) (hc : c < nc) (hj : j < 10) (hn : w.1 = N0) : Ev g (d + 4) 80 [.ref 6, .int (nI c), .int (nI j), .int bits] (cW w F A L) (RetQ (clC f c j bits) (cW w F A L)) noX := by
  have h16 := hI.c16
  have hN := FN.neg (by have := hI.p60; omega) ((hI.ca hc).2.2.2.1 j hj).1
  have tail : ∀ s : Nat, s < 10 → ∀ R : Int32, (if 0 ≤ f (6607 + 26 * c + (6 + s)) then owC f c s bits else 7) = R → ∀ l4 l5, EX g mbOf (Ev g (d + 3)) (infoOf 80) k_X7_classOf (RetQ R (cW w F A L)) noX w.1 (cW w F A L) 0 0 13 [some (.ref 6), some (.int (nI c)), some (.int (nI j)), some (.int bits), l4, l5] [.int (nI s)] := by
    intro s hs R hRr l4 l5
    have hNs := FN.neg (by have := hI.p60; omega) ((hI.ca hc).2.2.2.1 s hs).1
    refine x_is (lo' := [_, _, _, _, _, _]) rfl (Nat.le_of_ble_eq_true rfl) rfl ?_
    refine x_al rfl rfl ?_
    refine x_il rfl rfl ?_
    refine x_il rfl rfl ?_
    refine x_call3 (c_shownClass (j := s) hR hI hc hs hn) rfl (Nat.le_of_ble_eq_true rfl) (Or.inl (by first | exact hn | assumption)) (rcv_at (cw_fs (by with_reducible exact (by first | exact sp_6 | exact st_0 (by assumption))) hn) (by decide) (by decide)) (Nat.le_of_ble_eq_true rfl) (Nat.le_of_ble_eq_true rfl) (fun E w9 hq => hq.elim) ?_
    rintro v9 w9 ⟨rfl, rfl⟩
    refine x_is (lo' := [_, _, _, _, _, _]) rfl (Nat.le_of_ble_eq_true rfl) rfl ?_
    refine x_il rfl rfl ?_
    refine x_c rfl ?_
    unfold shC
    by_cases e : f (6607 + 26 * c + (6 + s)) < 0
    · rw [if_pos e]
      rw [if_neg (Int32.not_le.mpr e)] at hRr
      refine x_icne rfl (fun e9 => absurd rfl e9) (fun e9 => ?_)
      refine x_c rfl ?_
      refine x_reti rfl (Nat.le_of_ble_eq_true rfl) (Nat.le_of_ble_eq_true rfl) rfl ?_
      exact ⟨by rw [← hRr], rfl⟩
    · rw [if_neg e]
      rw [if_pos (Int32.not_lt.mp e)] at hRr
      obtain ⟨p, hp, ep⟩ : ∃ p, p < np ∧ f (6607 + 26 * c + (6 + s)) = nI p := by
        rcases ((hI.ca hc).2.2.2.1 s hs).1 with h | h
        · exact absurd (by rw [h]; decide) e
        · exact h
      have hcl : ¬ clsF f (cN (f (6607 + 26 * c + (6 + s)))) = -1 := fun h => by
        rcases pat_is (turnF f (cN (f (6607 + 26 * c + (6 + s))))) with h2 | h2 | h2 | h2 | h2 | h2 <;> (unfold clsF at h; rw [h2] at h; revert h; split <;> (try split) <;> first | decide | (split <;> decide) | (split <;> split <;> decide))
      refine x_icne rfl (fun e9 => ?_) (fun e9 => absurd e9 hcl)
      refine x_il rfl rfl ?_
      refine x_il rfl rfl ?_
      refine x_shr rfl ?_
      refine x_c rfl ?_
      refine x_and rfl ?_
      refine x_c rfl ?_
      rw [bt_shr (by omega)]
      unfold owC at hRr
      cases hb : bt bits s with
      | true =>
        rw [hb, if_pos rfl] at hRr
        refine x_icne rfl (fun e9 => absurd rfl e9) (fun e9 => ?_)
        refine x_al rfl rfl ?_
        refine x_getC rfl hn (by with_reducible exact (by first | exact sp_6 | exact st_0 (by assumption))) (by exact rfl) ?_
        refine x_il rfl rfl ?_
        refine x_aaC rfl hn (by with_reducible exact sp_9) (by decide) (by omega) ?_
        refine x_getC rfl hn (by with_reducible exact ca_0 (by first | assumption | exact caA (by omega) | exact caB (by assumption) (by omega))) (by exact rfl) ?_
        refine x_il rfl rfl ?_
        refine x_iaC rfl hn (by with_reducible exact ca_2 (by first | assumption | exact caA (by omega) | exact caB (by assumption) (by omega))) (by omega) ?_
        refine x_go rfl ?_
        refine x_reti rfl (Nat.le_of_ble_eq_true rfl) (Nat.le_of_ble_eq_true rfl) rfl ?_
        exact ⟨by rw [← hRr, ((hR.ca hc).2.1 s hs).2.1], rfl⟩
      | false =>
        rw [hb, if_neg (by decide)] at hRr
        refine x_icne rfl (fun e9 => ?_) (fun e9 => absurd (show (0 : Int32) = 1 from e9) (by decide))
        refine x_il rfl rfl ?_
        refine x_reti rfl (Nat.le_of_ble_eq_true rfl) (Nat.le_of_ble_eq_true rfl) rfl ?_
        exact ⟨by rw [← hRr], rfl⟩
  refine ev_X7_classOf ?_ (Nat.le_of_ble_eq_true rfl)
  refine x_lo (lo' := [some (.ref 6), some (.int (nI c)), some (.int (nI j)), some (.int bits), none, none]) rfl ?_
  refine x_al rfl rfl ?_
  refine x_il rfl rfl ?_
  refine x_il rfl rfl ?_
  refine x_call3 (c_printAt hR h16 hc hj hn) rfl (Nat.le_of_ble_eq_true rfl) (Or.inl (by first | exact hn | assumption)) (rcv_at (cw_fs (by with_reducible exact (by first | exact sp_6 | exact st_0 (by assumption))) hn) (by decide) (by decide)) (Nat.le_of_ble_eq_true rfl) (Nat.le_of_ble_eq_true rfl) (fun E w9 hq => hq.elim) ?_
  rintro v9 w9 ⟨rfl, rfl⟩
  refine x_c rfl ?_
  refine x_iceq rfl (fun c1 => ?_) (fun c1 => ?_)
  · skip
    have c1 := hN.mp c1
    refine x_il rfl rfl ?_
    refine x_c rfl ?_
    refine x_addN (y := 5) rfl ?_
    refine x_c rfl ?_
    refine x_remN (y := 10) rfl (by omega) ?_
    exact tail ((j + 5) % 10) (Nat.mod_lt _ (by decide)) _ (by unfold clC; rw [if_neg (Int32.not_le.mpr c1)]) _ _
  refine x_il rfl rfl ?_
  refine x_go rfl ?_
  have c1 := Int32.not_lt.mp (fun h => c1 (hN.mpr h))
  exact tail j hj _ (by unfold clC; rw [if_pos c1, if_pos c1]) _ _
theorem c_kind {x y : Int32} (hK : KI F A f np nm v) (hR : RS F A f 6 np nm nc nt ns nh) (hI : IV f np nm nc nt ns nh) (hn : w.1 = N0) : Ev g (d + 5) 126 [.ref 0, .int x, .int y] (cW w F A L) (caQ w F A (f) v (if okN x nc = true ∧ okN y 10 = true then 0 else 1) (some (.int (if okN x nc = true ∧ okN y 10 = true then clC f (cN x) (cN y) 0 else 0)))) (caX (cW w F A L) (if okN x nc = true ∧ okN y 10 = true then 0 else 1) 2 2) := by
  have h60 := hI.p60
  have h20 := hI.m20
  have h16 := hI.c16
  have h10 := hI.t10
  have h200 := hI.s200
  have hh200 := hI.h200
  refine ev_X10_kind ?_ (Nat.le_of_ble_eq_true rfl)
  refine x_lo (lo' := [some (.ref 0), some (.int x), some (.int y)]) rfl ?_
  refine x_al rfl rfl ?_
  refine x_il rfl rfl ?_
  refine x_call2 (c_needCard hR.1.2.2.2.2.2.2.1 (by omega) hn) rfl (Nat.le_of_ble_eq_true rfl) (Or.inl (by first | exact hn | assumption)) (rcv_at (cw_fs (by with_reducible exact sp_0) hn) (by decide) (by decide)) (Nat.le_of_ble_eq_true rfl) (Nat.le_of_ble_eq_true rfl) (fun E w9 hq => ⟨rfl, by obtain ⟨h9, rfl, rfl⟩ := hq; exact ⟨rfl, Or.inl ⟨if_neg (fun h8 => fne h9 h8.1), rfl⟩⟩⟩) ?_
  rintro v9 w9 ⟨h1, rfl, rfl⟩
  refine x_il rfl rfl ?_
  refine x_call1 (c_needFinger hn) rfl (Nat.le_of_ble_eq_true rfl) (Or.inl (by first | exact hn | assumption)) trivial (Nat.le_of_ble_eq_true rfl) (Nat.le_of_ble_eq_true rfl) (fun E w9 hq => ⟨rfl, by obtain ⟨h9, rfl, rfl⟩ := hq; exact ⟨rfl, Or.inl ⟨if_neg (fun h8 => fne h9 h8.2), rfl⟩⟩⟩) ?_
  rintro v9 w9 ⟨h2, rfl, rfl⟩
  refine x_al rfl rfl ?_
  refine x_getC rfl hn (by with_reducible exact sp_0) (by exact rfl) ?_
  refine x_il rfl rfl ?_
  refine x_il rfl rfl ?_
  refine x_c rfl ?_
  obtain ⟨c, hc, rfl, ec⟩ := ok_of h1 (by omega)
  obtain ⟨j, hj, rfl, ej⟩ := ok_of h2 (by omega)
  refine x_call4 (c_classOf (bits := 0) hR hI hc hj hn) rfl (Nat.le_of_ble_eq_true rfl) (Or.inl (by first | exact hn | assumption)) (rcv_at (cw_fs (by with_reducible exact (by first | exact sp_6 | exact st_0 (by assumption))) hn) (by decide) (by decide)) (Nat.le_of_ble_eq_true rfl) (Nat.le_of_ble_eq_true rfl) (fun E w9 hq => hq.elim) ?_
  rintro v9 w9 ⟨rfl, rfl⟩
  refine x_reti rfl (Nat.le_of_ble_eq_true rfl) (Nat.le_of_ble_eq_true rfl) rfl ?_
  exact ca_ro hK hR hI (by rw [if_pos ⟨h1, h2⟩, ec, ej]) (if_pos ⟨h1, h2⟩)
theorem c_kept {x day : Int32} (hK : KI F A f np nm v) (hR : RS F A f 6 np nm nc nt ns nh) (hI : IV f np nm nc nt ns nh) (hn : w.1 = N0) : Ev g (d + 6) 150 [.ref 0, .int x, .int day] (cW w F A L) (caQ w F A (f) v (if okN x nc = true then 0 else 1) (some (.int (if okN x nc = true then keptF f nt (cN x) day else 0)))) (caX (cW w F A L) (if okN x nc = true then 0 else 1) 2 2) := by
  have h60 := hI.p60
  have h20 := hI.m20
  have h16 := hI.c16
  have h10 := hI.t10
  have h200 := hI.s200
  have hh200 := hI.h200
  refine ev_X10_kept ?_ (Nat.le_of_ble_eq_true rfl)
  refine x_lo (lo' := [some (.ref 0), some (.int x), some (.int day)]) rfl ?_
  refine x_al rfl rfl ?_
  refine x_il rfl rfl ?_
  refine x_call2 (c_needCard hR.1.2.2.2.2.2.2.1 (by omega) hn) rfl (Nat.le_of_ble_eq_true rfl) (Or.inl (by first | exact hn | assumption)) (rcv_at (cw_fs (by with_reducible exact sp_0) hn) (by decide) (by decide)) (Nat.le_of_ble_eq_true rfl) (Nat.le_of_ble_eq_true rfl) (fun E w9 hq => ⟨rfl, by obtain ⟨h9, rfl, rfl⟩ := hq; exact ⟨rfl, Or.inl ⟨if_neg (fun h8 => fne h9 h8), rfl⟩⟩⟩) ?_
  rintro v9 w9 ⟨h1, rfl, rfl⟩
  refine x_al rfl rfl ?_
  refine x_getC rfl hn (by with_reducible exact sp_0) (by exact rfl) ?_
  refine x_al rfl rfl ?_
  refine x_getC rfl hn (by with_reducible exact sp_0) (by exact rfl) ?_
  refine x_getC rfl hn (by with_reducible exact (by first | exact sp_6 | exact st_0 (by assumption))) (by exact rfl) ?_
  obtain ⟨c, hc, rfl, ec⟩ := ok_of h1 (by omega)
  refine x_il rfl rfl ?_
  refine x_aaC rfl hn (by with_reducible exact sp_9) (by decide) (by omega) ?_
  refine x_il rfl rfl ?_
  refine x_call3 (c_ofCardF (day := day) hR hI hc hn) rfl (Nat.le_of_ble_eq_true rfl) (Or.inl (by first | exact hn | assumption)) (rcv_at (cw_fs (by with_reducible exact sp_1405) hn) (by decide) (by decide)) (Nat.le_of_ble_eq_true rfl) (Nat.le_of_ble_eq_true rfl) (fun E w9 hq => hq.elim) ?_
  rintro v9 w9 ⟨rfl, h5, L2, rfl, hF⟩
  refine x_al rfl rfl ?_
  refine x_getC rfl hn (by with_reducible exact sp_0) (by exact rfl) ?_
  refine x_il rfl rfl ?_
  have hR2 : RS (udA F 1405 h5) A f 6 np nm nc nt ns nh := hR.keep hI (fun q h1 h2 => ⟨udA_ne (by omega), rfl⟩)
  refine x_call2 (c_textOn (day := day) hR2 h10 hn) rfl (Nat.le_of_ble_eq_true rfl) (Or.inl (by first | exact hn | assumption)) (rcv_at (cw_fs (by with_reducible exact (by first | exact sp_6 | exact st_0 (by assumption))) hn) (by decide) (by decide)) (Nat.le_of_ble_eq_true rfl) (Nat.le_of_ble_eq_true rfl) (fun E w9 hq => hq.elim) ?_
  rintro v9 w9 ⟨rfl, rfl⟩
  refine x_al rfl rfl ?_
  refine x_getC rfl hn (by with_reducible exact sp_0) (by exact rfl) ?_
  refine x_call2 (c_keptBy (te_b h10) (hR2.txo day) hF hn) rfl (Nat.le_of_ble_eq_true rfl) (Or.inl (by first | exact hn | assumption)) (rcv_at (cw_fs (by with_reducible exact te_0 (by first | assumption | exact teA (by omega) | exact teN | exact teD | exact te_b (by assumption) | exact teB (by assumption) (by omega))) hn) (by decide) (by decide)) (Nat.le_of_ble_eq_true rfl) (Nat.le_of_ble_eq_true rfl) (fun E w9 hq => hq.elim) ?_
  rintro v9 w9 ⟨rfl, rfl⟩
  refine x_reti rfl (Nat.le_of_ble_eq_true rfl) (Nat.le_of_ble_eq_true rfl) rfl ?_
  exact ca_sx hR hI (fun q hq => ⟨udA_ne (by omega), rfl⟩) (hK.keepC rfl rfl) (by rw [if_pos h1, ec]; rfl) (if_pos h1)
theorem c_person {x day : Int32} (hK : KI F A f np nm v) (hR : RS F A f 6 np nm nc nt ns nh) (hI : IV f np nm nc nt ns nh) (hn : w.1 = N0) : Ev g (d + 16) 144 [.ref 0, .int x, .int day] (cW w F A L) (caQ w F A (f) v (if okN x nc = true then 0 else 1) (some (.int (if okN x nc = true then leastF f nt nc day (A 1423) (cN x) else 0)))) (caX (cW w F A L) (if okN x nc = true then 0 else 1) 2 2) := by
  have h60 := hI.p60
  have h20 := hI.m20
  have h16 := hI.c16
  have h10 := hI.t10
  have h200 := hI.s200
  have hh200 := hI.h200
  refine ev_X10_person ?_ (Nat.le_of_ble_eq_true rfl)
  refine x_lo (lo' := [some (.ref 0), some (.int x), some (.int day)]) rfl ?_
  refine x_al rfl rfl ?_
  refine x_il rfl rfl ?_
  refine x_call2 (c_needCard hR.1.2.2.2.2.2.2.1 (by omega) hn) rfl (Nat.le_of_ble_eq_true rfl) (Or.inl (by first | exact hn | assumption)) (rcv_at (cw_fs (by with_reducible exact sp_0) hn) (by decide) (by decide)) (Nat.le_of_ble_eq_true rfl) (Nat.le_of_ble_eq_true rfl) (fun E w9 hq => ⟨rfl, by obtain ⟨h9, rfl, rfl⟩ := hq; exact ⟨rfl, Or.inl ⟨if_neg (fun h8 => fne h9 h8), rfl⟩⟩⟩) ?_
  rintro v9 w9 ⟨h1, rfl, rfl⟩
  refine x_al rfl rfl ?_
  refine x_il rfl rfl ?_
  obtain ⟨c, hc, rfl, ec⟩ := ok_of h1 (by omega)
  refine x_call2 (c_groupPersons (day := day) hK hR hI hn) rfl (Nat.le_of_ble_eq_true rfl) (Or.inl (by first | exact hn | assumption)) (rcv_at (cw_fs (by with_reducible exact sp_0) hn) (by decide) (by decide)) (Nat.le_of_ble_eq_true rfl) (Nat.le_of_ble_eq_true rfl) (fun E w9 hq => hq.elim) ?_
  rintro v9 w9 ⟨rfl, F1, A1, L1, rfl, hs1, hK1, hl, hL⟩
  refine x_al rfl rfl ?_
  refine x_getC rfl hn (by with_reducible exact sp_0) (by exact rfl) ?_
  refine x_il rfl rfl ?_
  refine x_iaC rfl hn (by with_reducible exact sp_1423) (by omega) ?_
  refine x_reti rfl (Nat.le_of_ble_eq_true rfl) (Nat.le_of_ble_eq_true rfl) rfl ?_
  rw [hl]
  exact ca_sx hR hI hs1 hK1 (by rw [if_pos h1, ec]) (if_pos h1)
theorem c_persons {day : Int32} {nmB : Bool} (hK : KI F A f np nm v) (hR : RS F A f 6 np nm nc nt ns nh) (hI : IV f np nm nc nt ns nh) (hn : w.1 = N0) : Ev g (d + 16) 145 [.ref 0, .int day, .int (bI nmB)] (cW w F A L) (caQ w F A f v 0 (some (.int (nI (cn (perB f (leastF f nt nc day (A 1423)) nc nmB) nc))))) noX := by
  have h60 := hI.p60
  have h20 := hI.m20
  have h16 := hI.c16
  have h10 := hI.t10
  have h200 := hI.s200
  have hh200 := hI.h200
  refine ev_X10_persons ?_ (Nat.le_of_ble_eq_true rfl)
  refine x_lo (lo' := [some (.ref 0), some (.int day), some (.int (bI nmB)), none, none]) rfl ?_
  refine x_al rfl rfl ?_
  refine x_il rfl rfl ?_
  refine x_call2 (c_groupPersons (day := day) hK hR hI hn) rfl (Nat.le_of_ble_eq_true rfl) (Or.inl (by first | exact hn | assumption)) (rcv_at (cw_fs (by with_reducible exact sp_0) hn) (by decide) (by decide)) (Nat.le_of_ble_eq_true rfl) (Nat.le_of_ble_eq_true rfl) (fun E w9 hq => hq.elim) ?_
  rintro v9 w9 ⟨rfl, F1, A1, L1, rfl, hs1, hK1, hl, hL⟩
  refine x_c rfl ?_
  refine x_is (lo' := [_, _, _, _, _]) rfl (Nat.le_of_ble_eq_true rfl) rfl ?_
  refine x_c rfl ?_
  refine x_is (lo' := [_, _, _, _, _]) rfl (Nat.le_of_ble_eq_true rfl) rfl ?_
  have hR1 := hR.keep hI (fun q h1 h2 => hs1 q (by omega))
  rw [← hl] at hL ⊢
  have loop : ∀ c, c ≤ nc → EX g mbOf (Ev g (d + 15)) (infoOf 145) k_X10_persons (caQ w F A f v 0 (some (.int (nI (cn (perB f (A1 1423) nc nmB) nc))))) noX w.1 (cW w F1 A1 L1) 0 0 7 [some (.ref 0), some (.int day), some (.int (bI nmB)), some (.int (nI (cn (perB f (A1 1423) nc nmB) c))), some (.int (nI c))] [] := by
    refine downN nc fun c hc ih => ?_
    refine x_il rfl rfl ?_
    refine x_al rfl rfl ?_
    refine x_getC rfl hn (by with_reducible exact sp_0) (by exact rfl) ?_
    refine x_getC rfl hn (by with_reducible exact (by first | exact sp_6 | exact st_0 (by assumption))) (by exact rfl) ?_
    rw [show F1 6 6 = nI nc from hR1.1.2.2.2.2.2.2.1]
    refine x_icgeN rfl (by omega) (fun c0 => ?_) (fun c0 => ?_)
    · refine x_il rfl rfl ?_
      refine x_reti rfl (Nat.le_of_ble_eq_true rfl) (Nat.le_of_ble_eq_true rfl) rfl ?_
      obtain rfl : c = nc := by omega
      exact ca_sx hR hI hs1 hK1 rfl rfl
    refine x_al rfl rfl ?_
    refine x_getC rfl hn (by with_reducible exact sp_0) (by exact rfl) ?_
    refine x_il rfl rfl ?_
    refine x_iaC rfl hn (by with_reducible exact sp_1423) (by omega) ?_
    refine x_il rfl rfl ?_
    have ih := ih c0
    have hpb : perB f (A1 1423) nc nmB c = (decide (A1 1423 c = nI c) && (!nmB || anyF (twoB f (A1 1423) c) (c + 1) (nc - (c + 1)))) := rfl
    refine x_icne rfl (fun c1 => ?_) (fun c1 => ?_)
    · skip
      rw [cn_f (by rw [hpb, decide_eq_false c1, Bool.false_and]; decide)] at ih
      refine x_inc1 (lo' := [_, _, _, _, _]) rfl rfl rfl ?_
      refine x_go rfl ?_
      exact ih
    refine x_il rfl rfl ?_
    cases nmB with
    | false =>
      refine x_ifeq rfl (fun e9 => ?_) (fun e9 => absurd rfl e9)
      rw [cn_t (by rw [hpb, decide_eq_true c1]; rfl)] at ih
      refine x_inc1 (lo' := [_, _, _, _, _]) rfl rfl rfl ?_
      refine x_inc1 (lo' := [_, _, _, _, _]) rfl rfl rfl ?_
      refine x_go rfl ?_
      exact ih
    | true =>
      refine x_ifeq rfl (fun e9 => absurd e9 (show ¬ (1 : Int32) = 0 by decide)) (fun e9 => ?_)
      refine x_al rfl rfl ?_
      refine x_il rfl rfl ?_
      refine x_call2 (c_hasSecondName hR1 h16 c0 hL hn) rfl (Nat.le_of_ble_eq_true rfl) (Or.inl (by first | exact hn | assumption)) (rcv_at (cw_fs (by with_reducible exact sp_0) hn) (by decide) (by decide)) (Nat.le_of_ble_eq_true rfl) (Nat.le_of_ble_eq_true rfl) (fun E w9 hq => hq.elim) ?_
      rintro v9 w9 ⟨rfl, rfl⟩
      cases hb : anyF (twoB f (A1 1423) c) (c + 1) (nc - (c + 1)) with
      | false =>
        refine x_ifeq rfl (fun e9 => ?_) (fun e9 => absurd rfl e9)
        rw [cn_f (by rw [hpb, hb, decide_eq_true c1]; decide)] at ih
        refine x_inc1 (lo' := [_, _, _, _, _]) rfl rfl rfl ?_
        refine x_go rfl ?_
        exact ih
      | true =>
        refine x_ifeq rfl (fun e9 => absurd e9 (show ¬ (1 : Int32) = 0 by decide)) (fun e9 => ?_)
        rw [cn_t (by rw [hpb, hb, decide_eq_true c1]; rfl)] at ih
        refine x_inc1 (lo' := [_, _, _, _, _]) rfl rfl rfl ?_
        refine x_inc1 (lo' := [_, _, _, _, _]) rfl rfl rfl ?_
        refine x_go rfl ?_
        exact ih
  exact loop 0 (Nat.zero_le _)
theorem c_needSaying {e k c j : Int32} (hK : KI F A f np nm v) (hR : RS F A f 6 np nm nc nt ns nh) (hI : IV f np nm nc nt ns nh) (hn : w.1 = N0) : Ev g (d + 3) 173 [.ref 0, .int e, .int k, .int c, .int j] (cW w F A L) (fun v1 w' => syP e k c j nm nc ∧ v1 = none ∧ w' = cW w F A L) (fun E w' => ¬ syP e k c j nm nc ∧ E = exN 2 ∧ w' = cW w F A L) := by
  have h60 := hI.p60
  have h20 := hI.m20
  have h16 := hI.c16
  have h10 := hI.t10
  have h200 := hI.s200
  have hh200 := hI.h200
  have no : okN e 6 = false → EX g mbOf (Ev g (d + 2)) (infoOf 173) k_X10_needSaying (fun v1 w' => syP e k c j nm nc ∧ v1 = none ∧ w' = cW w F A L) (fun E w' => ¬ syP e k c j nm nc ∧ E = exN 2 ∧ w' = cW w F A L) w.1 (cW w F A L) 0 0 5 [some (.ref 0), some (.int e), some (.int k), some (.int c), some (.int j)] [] := by
    intro h
    refine x_thr rfl hn rfl (Nat.le_of_ble_eq_true rfl) (Nat.le_of_ble_eq_true rfl) (Nat.le_of_ble_eq_true rfl) ?_
    exact ⟨fun h2 => fne h h2.1, rfl, rfl⟩
  refine ev_X10_needSaying ?_ (Nat.le_of_ble_eq_true rfl)
  refine x_lo (lo' := [some (.ref 0), some (.int e), some (.int k), some (.int c), some (.int j)]) rfl ?_
  refine x_il rfl rfl ?_
  refine x_iflt rfl (fun c1 => ?_) (fun c1 => ?_)
  · skip
    exact no (c_noN1 c1)
  refine x_il rfl rfl ?_
  refine x_c rfl ?_
  refine x_iclt rfl (fun c2 => ?_) (fun c2 => ?_)
  rotate_left
  · skip
    exact no (ge_no (n := 6) (by decide) c2)
  have h0 : okN e 6 = true := c_okN (n := 6) (by decide) c1 (Int32.not_le.mpr c2)
  refine x_al rfl rfl ?_
  refine x_il rfl rfl ?_
  refine x_call2 (c_needMark hR.1.2.2.2.2.2.1 (by omega) hn) rfl (Nat.le_of_ble_eq_true rfl) (Or.inl (by first | exact hn | assumption)) (rcv_at (cw_fs (by with_reducible exact sp_0) hn) (by decide) (by decide)) (Nat.le_of_ble_eq_true rfl) (Nat.le_of_ble_eq_true rfl) (fun E w9 hq => ⟨rfl, by obtain ⟨h9, rfl, rfl⟩ := hq; exact ⟨fun h8 => fne h9 h8.2.1, rfl, rfl⟩⟩) ?_
  rintro v9 w9 ⟨h1, rfl, rfl⟩
  refine x_al rfl rfl ?_
  refine x_il rfl rfl ?_
  refine x_call2 (c_needCard hR.1.2.2.2.2.2.2.1 (by omega) hn) rfl (Nat.le_of_ble_eq_true rfl) (Or.inl (by first | exact hn | assumption)) (rcv_at (cw_fs (by with_reducible exact sp_0) hn) (by decide) (by decide)) (Nat.le_of_ble_eq_true rfl) (Nat.le_of_ble_eq_true rfl) (fun E w9 hq => ⟨rfl, by obtain ⟨h9, rfl, rfl⟩ := hq; exact ⟨fun h8 => fne h9 h8.2.2.1, rfl, rfl⟩⟩) ?_
  rintro v9 w9 ⟨h2, rfl, rfl⟩
  refine x_il rfl rfl ?_
  refine x_call1 (c_needFinger hn) rfl (Nat.le_of_ble_eq_true rfl) (Or.inl (by first | exact hn | assumption)) trivial (Nat.le_of_ble_eq_true rfl) (Nat.le_of_ble_eq_true rfl) (fun E w9 hq => ⟨rfl, by obtain ⟨h9, rfl, rfl⟩ := hq; exact ⟨fun h8 => fne h9 h8.2.2.2, rfl, rfl⟩⟩) ?_
  rintro v9 w9 ⟨h3, rfl, rfl⟩
  refine x_retv rfl (Nat.le_of_ble_eq_true rfl) (Nat.le_of_ble_eq_true rfl) rfl ?_
  exact ⟨⟨h0, h1, h2, h3⟩, rfl, rfl⟩
theorem c_said {e k c j day : Int32} (hK : KI F A f np nm v) (hR : RS F A f 6 np nm nc nt ns nh) (hI : IV f np nm nc nt ns nh) (hn : w.1 = N0) : Ev g (d + 4) 137 [.ref 0, .int e, .int k, .int c, .int j, .int day] (cW w F A L) (caQ w F A (f) v (if syP e k c j nm nc then 0 else 1) (some (.int (if syP e k c j nm nc then sdF f e k c j day ns else 0)))) (caX (cW w F A L) (if syP e k c j nm nc then 0 else 1) 2 2) := by
  have h60 := hI.p60
  have h20 := hI.m20
  have h16 := hI.c16
  have h10 := hI.t10
  have h200 := hI.s200
  have hh200 := hI.h200
  refine ev_X10_said ?_ (Nat.le_of_ble_eq_true rfl)
  refine x_lo (lo' := [some (.ref 0), some (.int e), some (.int k), some (.int c), some (.int j), some (.int day)]) rfl ?_
  refine x_al rfl rfl ?_
  refine x_il rfl rfl ?_
  refine x_il rfl rfl ?_
  refine x_il rfl rfl ?_
  refine x_il rfl rfl ?_
  refine x_call5 (c_needSaying hK hR hI hn) rfl (Nat.le_of_ble_eq_true rfl) (Or.inl (by first | exact hn | assumption)) (rcv_at (cw_fs (by with_reducible exact sp_0) hn) (by decide) (by decide)) (Nat.le_of_ble_eq_true rfl) (Nat.le_of_ble_eq_true rfl) (fun E w9 hq => ⟨rfl, by obtain ⟨h9, rfl, rfl⟩ := hq; exact ⟨rfl, Or.inl ⟨if_neg h9, rfl⟩⟩⟩) ?_
  rintro v9 w9 ⟨h1, rfl, rfl⟩
  refine x_al rfl rfl ?_
  refine x_il rfl rfl ?_
  refine x_il rfl rfl ?_
  refine x_il rfl rfl ?_
  refine x_il rfl rfl ?_
  obtain ⟨e, he, rfl, ee⟩ := ok_of h1.1 (by omega)
  refine x_call5 (c_gather (k := k) (c := c) (j := j) hR hI hn) rfl (Nat.le_of_ble_eq_true rfl) (Or.inl (by first | exact hn | assumption)) (rcv_at (cw_fs (by with_reducible exact sp_0) hn) (by decide) (by decide)) (Nat.le_of_ble_eq_true rfl) (Nat.le_of_ble_eq_true rfl) (fun E w9 hq => hq.elim) ?_
  rintro v9 w9 ⟨rfl, h5, rfl, hh⟩
  refine x_al rfl rfl ?_
  refine x_getC rfl hn (by with_reducible exact sp_0) (by exact rfl) ?_
  refine x_il rfl rfl ?_
  refine x_iaC rfl hn (by with_reducible exact sp_1422) (by omega) ?_
  refine x_reti rfl (Nat.le_of_ble_eq_true rfl) (Nat.le_of_ble_eq_true rfl) rfl ?_
  rw [udA_t, hh e he]
  exact ca_sx hR hI (fun q hq => ⟨rfl, udA_ne (by omega)⟩) (hK.keepC rfl rfl) (by rw [if_pos h1]) (if_pos h1)
theorem c_proved {k c j day : Int32} (hK : KI F A f np nm v) (hR : RS F A f 6 np nm nc nt ns nh) (hI : IV f np nm nc nt ns nh) (hn : w.1 = N0) : Ev g (d + 15) 139 [.ref 0, .int k, .int c, .int j, .int day] (cW w F A L) (caQ w F A (f) v (if mcP k c j nm nc then 0 else 1) (some (.int (bI (decide (mcP k c j nm nc ∧ prvP f nt ns (cN k) (cN c) (cN j) day)))))) (caX (cW w F A L) (if mcP k c j nm nc then 0 else 1) 2 2) := by
  have h60 := hI.p60
  have h20 := hI.m20
  have h16 := hI.c16
  have h10 := hI.t10
  have h200 := hI.s200
  have hh200 := hI.h200
  refine ev_X10_proved ?_ (Nat.le_of_ble_eq_true rfl)
  refine x_lo (lo' := [some (.ref 0), some (.int k), some (.int c), some (.int j), some (.int day)]) rfl ?_
  refine x_al rfl rfl ?_
  refine x_il rfl rfl ?_
  refine x_call2 (c_needMark hR.1.2.2.2.2.2.1 (by omega) hn) rfl (Nat.le_of_ble_eq_true rfl) (Or.inl (by first | exact hn | assumption)) (rcv_at (cw_fs (by with_reducible exact sp_0) hn) (by decide) (by decide)) (Nat.le_of_ble_eq_true rfl) (Nat.le_of_ble_eq_true rfl) (fun E w9 hq => ⟨rfl, by obtain ⟨h9, rfl, rfl⟩ := hq; exact ⟨rfl, Or.inl ⟨if_neg (fun h8 => fne h9 h8.1), rfl⟩⟩⟩) ?_
  rintro v9 w9 ⟨h1, rfl, rfl⟩
  refine x_al rfl rfl ?_
  refine x_il rfl rfl ?_
  refine x_call2 (c_needCard hR.1.2.2.2.2.2.2.1 (by omega) hn) rfl (Nat.le_of_ble_eq_true rfl) (Or.inl (by first | exact hn | assumption)) (rcv_at (cw_fs (by with_reducible exact sp_0) hn) (by decide) (by decide)) (Nat.le_of_ble_eq_true rfl) (Nat.le_of_ble_eq_true rfl) (fun E w9 hq => ⟨rfl, by obtain ⟨h9, rfl, rfl⟩ := hq; exact ⟨rfl, Or.inl ⟨if_neg (fun h8 => fne h9 h8.2.1), rfl⟩⟩⟩) ?_
  rintro v9 w9 ⟨h2, rfl, rfl⟩
  refine x_il rfl rfl ?_
  refine x_call1 (c_needFinger hn) rfl (Nat.le_of_ble_eq_true rfl) (Or.inl (by first | exact hn | assumption)) trivial (Nat.le_of_ble_eq_true rfl) (Nat.le_of_ble_eq_true rfl) (fun E w9 hq => ⟨rfl, by obtain ⟨h9, rfl, rfl⟩ := hq; exact ⟨rfl, Or.inl ⟨if_neg (fun h8 => fne h9 h8.2.2), rfl⟩⟩⟩) ?_
  rintro v9 w9 ⟨h3, rfl, rfl⟩
  refine x_al rfl rfl ?_
  refine x_il rfl rfl ?_
  refine x_il rfl rfl ?_
  refine x_il rfl rfl ?_
  refine x_il rfl rfl ?_
  obtain ⟨k, hk, rfl, ek⟩ := ok_of h1 (by omega)
  obtain ⟨c, hc, rfl, ec⟩ := ok_of h2 (by omega)
  obtain ⟨j, hj, rfl, ej⟩ := ok_of h3 (by omega)
  refine x_call5 (c_isProved (day := day) hK hR hI hk hc hj hn) rfl (Nat.le_of_ble_eq_true rfl) (Or.inl (by first | exact hn | assumption)) (rcv_at (cw_fs (by with_reducible exact sp_0) hn) (by decide) (by decide)) (Nat.le_of_ble_eq_true rfl) (Nat.le_of_ble_eq_true rfl) (fun E w9 hq => hq.elim) ?_
  rintro v9 w9 ⟨F1, A1, L1, rfl, hs1, hK1, rfl⟩
  refine x_retz rfl (Nat.le_of_ble_eq_true rfl) (Nat.le_of_ble_eq_true rfl) rfl (by first | rfl | assumption | exact bI_01 _) ?_
  exact ca_sx hR hI (fun q hq => hs1 q (by omega)) hK1 (by rw [ek, ec, ej]; exact congrArg (fun z => some (Value.int z)) (bI_iff ⟨fun h => ⟨⟨h1, h2, h3⟩, h⟩, fun h => h.2⟩)) (if_pos ⟨h1, h2, h3⟩)
theorem c_hit {x y : Int32} (hK : KI F A f np nm v) (hR : RS F A f 6 np nm nc nt ns nh) (hI : IV f np nm nc nt ns nh) (hn : w.1 = N0) : Ev g (d + 3) 159 [.ref 0, .int x, .int y] (cW w F A L) (caQ w F A (f) v (if okN x nh = true ∧ okN y 6 = true then 0 else 1) (some (.int (if okN x nh = true ∧ okN y 6 = true then f (11425 + 7 * cN x + cN y) else 0)))) (caX (cW w F A L) (if okN x nh = true ∧ okN y 6 = true then 0 else 1) 3 3) := by
  have h60 := hI.p60
  have h20 := hI.m20
  have h16 := hI.c16
  have h10 := hI.t10
  have h200 := hI.s200
  have hh200 := hI.h200
  have no : okN x nh = false ∨ okN y 6 = false → EX g mbOf (Ev g (d + 2)) (infoOf 159) k_X10_hit (caQ w F A (f) v (if okN x nh = true ∧ okN y 6 = true then 0 else 1) (some (.int (if okN x nh = true ∧ okN y 6 = true then f (11425 + 7 * cN x + cN y) else 0)))) (caX (cW w F A L) (if okN x nh = true ∧ okN y 6 = true then 0 else 1) 3 3) w.1 (cW w F A L) 0 0 13 [some (.ref 0), some (.int x), some (.int y)] [] := by
    intro h
    refine x_thr rfl hn rfl (Nat.le_of_ble_eq_true rfl) (Nat.le_of_ble_eq_true rfl) (Nat.le_of_ble_eq_true rfl) ?_
    exact ⟨rfl, Or.inl ⟨if_neg (fun h2 => h.elim (fun h => fne h h2.1) (fun h => fne h h2.2)), rfl⟩⟩
  refine ev_X10_hit ?_ (Nat.le_of_ble_eq_true rfl)
  refine x_lo (lo' := [some (.ref 0), some (.int x), some (.int y)]) rfl ?_
  refine x_il rfl rfl ?_
  refine x_iflt rfl (fun c1 => ?_) (fun c1 => ?_)
  · skip
    exact no (Or.inl (c_noN1 c1))
  refine x_il rfl rfl ?_
  refine x_al rfl rfl ?_
  refine x_getC rfl hn (by with_reducible exact sp_0) (by exact rfl) ?_
  refine x_getC rfl hn (by with_reducible exact (by first | exact sp_6 | exact st_0 (by assumption))) (by exact rfl) ?_
  refine x_getC rfl hn (by with_reducible exact tb_0 (by first | assumption | exact tbS | exact tbH)) (by exact rfl) ?_
  rw [show F 19 3 = nI nh from hR.hi.1]
  refine x_icge rfl (fun c2 => ?_) (fun c2 => ?_)
  · skip
    exact no (Or.inl (c_noN2 c2))
  refine x_il rfl rfl ?_
  refine x_iflt rfl (fun c3 => ?_) (fun c3 => ?_)
  · skip
    exact no (Or.inr (c_noN1 c3))
  refine x_il rfl rfl ?_
  refine x_c rfl ?_
  refine x_iclt rfl (fun c4 => ?_) (fun c4 => ?_)
  rotate_left
  · skip
    exact no (Or.inr (ge_no (n := 6) (by decide) c4))
  have h1 : okN x nh = true := c_okN (by omega) c1 c2
  have h2 : okN y 6 = true := c_okN (n := 6) (by decide) c3 (Int32.not_le.mpr c4)
  obtain ⟨r, hr, rfl, er⟩ := ok_of h1 (by omega)
  obtain ⟨c, hc, rfl, ec⟩ := ok_of h2 (by omega)
  refine x_al rfl rfl ?_
  refine x_getC rfl hn (by with_reducible exact sp_0) (by exact rfl) ?_
  refine x_getC rfl hn (by with_reducible exact (by first | exact sp_6 | exact st_0 (by assumption))) (by exact rfl) ?_
  refine x_il rfl rfl ?_
  refine x_il rfl rfl ?_
  refine x_call3 (c_hitAt hR.hi hh200 hr (by omega) hn) rfl (Nat.le_of_ble_eq_true rfl) (Or.inl (by first | exact hn | assumption)) (rcv_at (cw_fs (by with_reducible exact tb_0 (by first | assumption | exact tbS | exact tbH)) hn) (by decide) (by decide)) (Nat.le_of_ble_eq_true rfl) (Nat.le_of_ble_eq_true rfl) (fun E w9 hq => hq.elim) ?_
  rintro v9 w9 ⟨rfl, rfl⟩
  refine x_reti rfl (Nat.le_of_ble_eq_true rfl) (Nat.le_of_ble_eq_true rfl) rfl ?_
  exact ca_ro hK hR hI (by rw [if_pos ⟨h1, h2⟩, er, ec]) (if_pos ⟨h1, h2⟩)
theorem c_left {x : Int32} (hK : KI F A f np nm v) (hR : RS F A f 6 np nm nc nt ns nh) (hI : IV f np nm nc nt ns nh) (hn : w.1 = N0) : Ev g (d + 4) 160 [.ref 0, .int x] (cW w F A L) (caQ w F A (f) v (if okN x nm = true then 0 else 1) (some (.int (if okN x nm = true then nI (cn (fun k => decide (wtP f (cN x) k)) (10 * nc)) else 0)))) (caX (cW w F A L) (if okN x nm = true then 0 else 1) 2 2) := by
  have h60 := hI.p60
  have h20 := hI.m20
  have h16 := hI.c16
  have h10 := hI.t10
  have h200 := hI.s200
  have hh200 := hI.h200
  refine ev_X10_left ?_ (Nat.le_of_ble_eq_true rfl)
  refine x_lo (lo' := [some (.ref 0), some (.int x), none, none, none]) rfl ?_
  refine x_al rfl rfl ?_
  refine x_il rfl rfl ?_
  refine x_call2 (c_needMark hR.1.2.2.2.2.2.1 (by omega) hn) rfl (Nat.le_of_ble_eq_true rfl) (Or.inl (by first | exact hn | assumption)) (rcv_at (cw_fs (by with_reducible exact sp_0) hn) (by decide) (by decide)) (Nat.le_of_ble_eq_true rfl) (Nat.le_of_ble_eq_true rfl) (fun E w9 hq => ⟨rfl, by obtain ⟨h9, rfl, rfl⟩ := hq; exact ⟨rfl, Or.inl ⟨if_neg (fun h8 => fne h9 h8), rfl⟩⟩⟩) ?_
  rintro v9 w9 ⟨h1, rfl, rfl⟩
  refine x_c rfl ?_
  refine x_is (lo' := [_, _, _, _, _]) rfl (Nat.le_of_ble_eq_true rfl) rfl ?_
  refine x_c rfl ?_
  refine x_is (lo' := [_, _, _, _, _]) rfl (Nat.le_of_ble_eq_true rfl) rfl ?_
  obtain ⟨k, hk, rfl, ek⟩ := ok_of h1 (by omega)
  rw [ek, if_pos h1, if_pos h1]
  generalize hP : (fun x => decide (wtP f k x)) = P
  have loopC : ∀ c, c ≤ nc → ∀ l4, EX g mbOf (Ev g (d + 3)) (infoOf 160) k_X10_left (caQ w F A f v 0 (some (.int (nI (cn P (10 * nc)))))) (caX (cW w F A L) 0 2 2) w.1 (cW w F A L) 1 6 7 [some (.ref 0), some (.int (nI k)), some (.int (nI (cn P (10 * c)))), some (.int (nI c)), l4] [] := by
    refine downN nc fun c hc ih => ?_
    intro l4
    refine x_il rfl rfl ?_
    refine x_al rfl rfl ?_
    refine x_getC rfl hn (by with_reducible exact sp_0) (by exact rfl) ?_
    refine x_getC rfl hn (by with_reducible exact (by first | exact sp_6 | exact st_0 (by assumption))) (by exact rfl) ?_
    rw [show F 6 6 = nI nc from hR.1.2.2.2.2.2.2.1]
    refine x_icgeN rfl (by omega) (fun c0 => ?_) (fun c0 => ?_)
    · refine x_il rfl rfl ?_
      refine x_reti rfl (Nat.le_of_ble_eq_true rfl) (Nat.le_of_ble_eq_true rfl) rfl ?_
      obtain rfl : c = nc := by omega
      exact ca_ro hK hR hI rfl rfl
    refine x_c rfl ?_
    refine x_is (lo' := [_, _, _, _, _]) rfl (Nat.le_of_ble_eq_true rfl) rfl ?_
    have ih := ih c0
    have inner : ∀ j, j ≤ 10 → EX g mbOf (Ev g (d + 3)) (infoOf 160) k_X10_left (caQ w F A f v 0 (some (.int (nI (cn P (10 * nc)))))) (caX (cW w F A L) 0 2 2) w.1 (cW w F A L) 1 6 14 [some (.ref 0), some (.int (nI k)), some (.int (nI (cn P (10 * c + j)))), some (.int (nI c)), some (.int (nI j))] [] := by
      refine downN 10 fun j hj ihj => ?_
      have := cn_le P (10 * c + j)
      refine x_il rfl rfl ?_
      refine x_c rfl ?_
      refine x_icgeN (y := 10) rfl (by omega) (fun c1 => ?_) (fun c1 => ?_)
      · refine x_inc1 (lo' := [_, _, _, _, _]) rfl rfl rfl ?_
        refine x_go rfl ?_
        obtain rfl : j = 10 := by omega
        exact ih _
      refine x_al rfl rfl ?_
      refine x_getC rfl hn (by with_reducible exact sp_0) (by exact rfl) ?_
      refine x_il rfl rfl ?_
      refine x_il rfl rfl ?_
      refine x_il rfl rfl ?_
      have ihj := ihj c1
      have hPx : P (10 * c + j) = decide (f (6607 + 26 * c + 2) < 0 ∧ 0 ≤ f (6607 + 26 * c + (6 + j)) ∧ f (7023 + 10 * (16 * k + c) + j) = 0) := by
        rw [← hP]
        refine dec_congr ?_
        unfold wtP
        rw [show (10 * c + j) / 10 = c by omega, show (10 * c + j) % 10 = j by omega]
      refine x_call4 (c_isLeft hR hI (by omega) c0 c1 hn) rfl (Nat.le_of_ble_eq_true rfl) (Or.inl (by first | exact hn | assumption)) (rcv_at (cw_fs (by with_reducible exact (by first | exact sp_6 | exact st_0 (by assumption))) hn) (by decide) (by decide)) (Nat.le_of_ble_eq_true rfl) (Nat.le_of_ble_eq_true rfl) (fun E w9 hq => hq.elim) ?_
      rintro v9 w9 ⟨rfl, rfl⟩
      refine x_ifeqB rfl (fun c2 => ?_) (fun c2 => ?_)
      · skip
        rw [show 10 * c + (j + 1) = 10 * c + j + 1 by omega, cn_f (by rw [hPx, decide_eq_true_iff]; exact c2)] at ihj
        refine x_inc1 (lo' := [_, _, _, _, _]) rfl rfl rfl ?_
        refine x_go rfl ?_
        exact ihj
      refine x_inc1 (lo' := [_, _, _, _, _]) rfl rfl rfl ?_
      rw [show 10 * c + (j + 1) = 10 * c + j + 1 by omega, cn_t (by rw [hPx, decide_eq_true_iff]; exact c2)] at ihj
      refine x_inc1 (lo' := [_, _, _, _, _]) rfl rfl rfl ?_
      refine x_go rfl ?_
      exact ihj
    exact inner 0 (by decide)
  exact loopC 0 (Nat.zero_le _) _
theorem c_lay {k p x : Int32} (hK : KI F A f np nm v) (hR : RS F A f 6 np nm nc nt ns nh) (hI : IV f np nm nc nt ns nh) (hn : w.1 = N0) : Ev g (d + 13) 122 [.ref 0, .int k, .int p, .int x] (cW w F A L) (caQ w F A (f) v (if okN k nm = true ∧ okN p np = true then (if okN x 5 = true then 0 else 2) else 1) (some (.int (if (okN k nm = true ∧ okN p np = true) ∧ okN x 5 = true then layW (layMk f (cN k) (cN p)) x else 0)))) (caX (cW w F A L) (if okN k nm = true ∧ okN p np = true then (if okN x 5 = true then 0 else 2) else 1) 2 3) := by
  have h60 := hI.p60
  have h20 := hI.m20
  have h16 := hI.c16
  have h10 := hI.t10
  have h200 := hI.s200
  have hh200 := hI.h200
  refine ev_X10_lay ?_ (Nat.le_of_ble_eq_true rfl)
  refine x_lo (lo' := [some (.ref 0), some (.int k), some (.int p), some (.int x)]) rfl ?_
  refine x_al rfl rfl ?_
  refine x_il rfl rfl ?_
  refine x_call2 (c_needMark hR.1.2.2.2.2.2.1 (by omega) hn) rfl (Nat.le_of_ble_eq_true rfl) (Or.inl (by first | exact hn | assumption)) (rcv_at (cw_fs (by with_reducible exact sp_0) hn) (by decide) (by decide)) (Nat.le_of_ble_eq_true rfl) (Nat.le_of_ble_eq_true rfl) (fun E w9 hq => ⟨rfl, by obtain ⟨h9, rfl, rfl⟩ := hq; exact ⟨rfl, Or.inl ⟨if_neg (fun h8 => fne h9 h8.1), rfl⟩⟩⟩) ?_
  rintro v9 w9 ⟨h1, rfl, rfl⟩
  refine x_al rfl rfl ?_
  refine x_il rfl rfl ?_
  refine x_call2 (c_needPrint hR.1.2.2.2.2.1 (by omega) hn) rfl (Nat.le_of_ble_eq_true rfl) (Or.inl (by first | exact hn | assumption)) (rcv_at (cw_fs (by with_reducible exact sp_0) hn) (by decide) (by decide)) (Nat.le_of_ble_eq_true rfl) (Nat.le_of_ble_eq_true rfl) (fun E w9 hq => ⟨rfl, by obtain ⟨h9, rfl, rfl⟩ := hq; exact ⟨rfl, Or.inl ⟨if_neg (fun h8 => fne h9 h8.2), rfl⟩⟩⟩) ?_
  rintro v9 w9 ⟨h2, rfl, rfl⟩
  refine x_il rfl rfl ?_
  have no : okN x 5 = false → EX g mbOf (Ev g (d + 12)) (infoOf 122) k_X10_lay (caQ w F A (f) v (if okN k nm = true ∧ okN p np = true then (if okN x 5 = true then 0 else 2) else 1) (some (.int (if (okN k nm = true ∧ okN p np = true) ∧ okN x 5 = true then layW (layMk f (cN k) (cN p)) x else 0)))) (caX (cW w F A L) (if okN k nm = true ∧ okN p np = true then (if okN x 5 = true then 0 else 2) else 1) 2 3) w.1 (cW w F A L) 2 12 11 [some (.ref 0), some (.int k), some (.int p), some (.int x)] [] := by
    intro h
    refine x_thr rfl hn rfl (Nat.le_of_ble_eq_true rfl) (Nat.le_of_ble_eq_true rfl) (Nat.le_of_ble_eq_true rfl) ?_
    exact ⟨rfl, Or.inr ⟨by rw [if_pos ⟨h1, h2⟩, if_neg (fne h)], rfl⟩⟩
  refine x_iflt rfl (fun c1 => ?_) (fun c1 => ?_)
  · skip
    exact no (c_noN1 c1)
  refine x_il rfl rfl ?_
  refine x_c rfl ?_
  refine x_iclt rfl (fun c2 => ?_) (fun c2 => ?_)
  rotate_left
  · skip
    exact no (ge_no (n := 5) (by decide) c2)
  have h3 : okN x 5 = true := c_okN (n := 5) (by decide) c1 (Int32.not_le.mpr c2)
  rw [if_pos ⟨h1, h2⟩, if_pos h3, if_pos ⟨⟨h1, h2⟩, h3⟩]
  obtain ⟨k, hk, rfl, ek⟩ := ok_of h1 (by omega)
  obtain ⟨p, hp, rfl, ep⟩ := ok_of h2 (by omega)
  obtain ⟨x, hx, rfl, ex⟩ := ok_of h3 (by omega)
  rw [ek, ep]
  refine x_al rfl rfl ?_
  refine x_getC rfl hn (by with_reducible exact sp_0) (by exact rfl) ?_
  refine x_al rfl rfl ?_
  refine x_getC rfl hn (by with_reducible exact sp_0) (by exact rfl) ?_
  refine x_il rfl rfl ?_
  refine x_il rfl rfl ?_
  refine x_call3 (c_keyM hn) rfl (Nat.le_of_ble_eq_true rfl) (Or.inl (by first | exact hn | assumption)) (rcv_at (cw_fs (by with_reducible exact sp_1396) hn) (by decide) (by decide)) (Nat.le_of_ble_eq_true rfl) (Nat.le_of_ble_eq_true rfl) (fun E w9 hq => hq.elim) ?_
  rintro v9 w9 ⟨rfl, rfl⟩
  refine x_al rfl rfl ?_
  refine x_getC rfl hn (by with_reducible exact sp_0) (by exact rfl) ?_
  refine x_getC rfl hn (by with_reducible exact (by first | exact sp_6 | exact st_0 (by assumption))) (by exact rfl) ?_
  refine x_il rfl rfl ?_
  refine x_aaC rfl hn (by with_reducible exact sp_8) (by decide) (by omega) ?_
  refine x_getC rfl hn (by with_reducible exact ma_0 (by first | assumption | exact maA (by omega) | exact maB (by assumption) (by omega))) (by exact rfl) ?_
  refine x_al rfl rfl ?_
  refine x_getC rfl hn (by with_reducible exact sp_0) (by exact rfl) ?_
  refine x_getC rfl hn (by with_reducible exact (by first | exact sp_6 | exact st_0 (by assumption))) (by exact rfl) ?_
  refine x_il rfl rfl ?_
  refine x_aaC rfl hn (by with_reducible exact sp_7) (by decide) (by omega) ?_
  refine x_getC rfl hn (by with_reducible exact pr_0 (by first | assumption | exact prA (by omega) | exact prD | exact prB (by assumption) (by omega))) (by exact rfl) ?_
  refine x_al rfl rfl ?_
  refine x_getC rfl hn (by with_reducible exact sp_0) (by exact rfl) ?_
  refine x_getC rfl hn (by with_reducible exact (by first | exact sp_6 | exact st_0 (by assumption))) (by exact rfl) ?_
  rw [show F 6 1 = f 1 from hR.1.2.1]
  refine x_call5 (c_findM hK hR hI hk hp hn) rfl (Nat.le_of_ble_eq_true rfl) (Or.inl (by first | exact hn | assumption)) (rcv_at (cw_fs (by with_reducible exact sp_1396) hn) (by decide) (by decide)) (Nat.le_of_ble_eq_true rfl) (Nat.le_of_ble_eq_true rfl) (fun E w9 hq => hq.elim) ?_
  rintro v9 w9 ⟨rfl, F1, A1, rfl, hs1, hK1, hb1⟩
  refine x_il rfl rfl ?_
  obtain ⟨b0, b1, b2, b3, b4⟩ := hb1
  have fin : ∀ r : Int32, r = layW (layMk f k p) (nI x) → caQ w F A f v 0 (some (.int (layW (layMk f k p) (nI x)))) (some (.int r)) (cW w F1 A1 L) := fun r hr => ca_sx hR hI (fun q hq => hs1 q (by omega)) hK1 (by rw [hr]) rfl
  match x, hx with
  | 0, _ =>
    refine x_swJ 0 rfl (by decide) rfl ?_
    refine x_al rfl rfl ?_
    refine x_getC rfl hn (by with_reducible exact sp_0) (by exact rfl) ?_
    refine x_getC rfl hn (by with_reducible exact sp_1396) (by exact rfl) ?_
    refine x_reti rfl (Nat.le_of_ble_eq_true rfl) (Nat.le_of_ble_eq_true rfl) rfl ?_
    exact fin _ b0
  | 1, _ =>
    refine x_swJ 1 rfl (by decide) rfl ?_
    refine x_al rfl rfl ?_
    refine x_getC rfl hn (by with_reducible exact sp_0) (by exact rfl) ?_
    refine x_getC rfl hn (by with_reducible exact sp_1396) (by exact rfl) ?_
    refine x_reti rfl (Nat.le_of_ble_eq_true rfl) (Nat.le_of_ble_eq_true rfl) rfl ?_
    exact fin _ b1
  | 2, _ =>
    refine x_swJ 2 rfl (by decide) rfl ?_
    refine x_al rfl rfl ?_
    refine x_getC rfl hn (by with_reducible exact sp_0) (by exact rfl) ?_
    refine x_getC rfl hn (by with_reducible exact sp_1396) (by exact rfl) ?_
    refine x_reti rfl (Nat.le_of_ble_eq_true rfl) (Nat.le_of_ble_eq_true rfl) rfl ?_
    exact fin _ b2
  | 3, _ =>
    refine x_swJ 3 rfl (by decide) rfl ?_
    refine x_al rfl rfl ?_
    refine x_getC rfl hn (by with_reducible exact sp_0) (by exact rfl) ?_
    refine x_getC rfl hn (by with_reducible exact sp_1396) (by exact rfl) ?_
    refine x_reti rfl (Nat.le_of_ble_eq_true rfl) (Nat.le_of_ble_eq_true rfl) rfl ?_
    exact fin _ b3
  | 4, _ =>
    refine x_swD rfl (by decide) ?_
    refine x_al rfl rfl ?_
    refine x_getC rfl hn (by with_reducible exact sp_0) (by exact rfl) ?_
    refine x_getC rfl hn (by with_reducible exact sp_1396) (by exact rfl) ?_
    refine x_reti rfl (Nat.le_of_ble_eq_true rfl) (Nat.le_of_ble_eq_true rfl) rfl ?_
    exact fin _ b4
end CALLS
