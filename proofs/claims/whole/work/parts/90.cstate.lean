/-! readers of the State; cw_ -/
/-- where the text in force lies -/
def teQ : Option Nat → Nat
  | none => 11
  | some t => 641 + 6 * t
section CALLS
variable {g : aG} {d : Nat} {w : aW} {F A : Nat → Nat → Int32} {L : Nat → Int64} {f : Nat → Int32} {np nm nc nt ns nh : Nat}
theorem c_okN {x : Int32} {n : Nat} (hl : n < 2 ^ 31) (c1 : ¬ x < 0) (c2 : ¬ nI n ≤ x) : okN x n = true := by
  unfold okN
  rw [decide_eq_true_iff]
  exact ⟨Int32.not_lt.mp c1, Int32.not_le.mp c2⟩
theorem c_noN1 {x : Int32} {n : Nat} (c1 : x < 0) : okN x n = false := by
  unfold okN
  rw [decide_eq_false_iff_not]
  exact fun h => absurd c1 (Int32.not_lt.mpr h.1)
theorem c_noN2 {x : Int32} {n : Nat} (c2 : nI n ≤ x) : okN x n = false := by
  unfold okN
  rw [decide_eq_false_iff_not]
  exact fun h => absurd h.2 (Int32.not_lt.mpr c2)
theorem okN_n {k n : Nat} (h : k < n) (hl : n < 2 ^ 31) : okN (nI k) n = true := by
  unfold okN
  rw [decide_eq_true_iff]
  exact ⟨(nI_leI (a := 0) (by omega) (by omega)).mpr (Nat.zero_le _), (nI_ltI (by omega) hl).mpr h⟩
theorem c_isPrint {x : Int32} {n : Nat} (h : F 6 4 = nI n) (hl : n < 2 ^ 31) (hn : w.1 = N0) : Ev g (d + 1) 69 [.ref 6, .int x] (cW w F A L) (RetQ (bI (okN x n)) (cW w F A L)) noX := by
  refine ev_X7_isPrint ?_ (Nat.le_of_ble_eq_true rfl)
  refine x_lo (lo' := [some (.ref 6), some (.int x)]) rfl ?_
  refine x_il rfl rfl ?_
  refine x_iflt rfl (fun c1 => ?_) (fun c1 => ?_)
  · refine x_c rfl ?_
    refine x_retz rfl (Nat.le_of_ble_eq_true rfl) (Nat.le_of_ble_eq_true rfl) rfl (by first | rfl | assumption) ?_
    exact ⟨by rw [c_noN1 c1]; rfl, rfl⟩
  refine x_il rfl rfl ?_
  refine x_al rfl rfl ?_
  refine x_getC rfl hn (by with_reducible exact (by first | exact sp_6 | exact st_0 (by assumption))) (by exact rfl) ?_
  rw [h]
  refine x_icge rfl (fun c2 => ?_) (fun c2 => ?_)
  · refine x_c rfl ?_
    refine x_retz rfl (Nat.le_of_ble_eq_true rfl) (Nat.le_of_ble_eq_true rfl) rfl (by first | rfl | assumption) ?_
    exact ⟨by rw [c_noN2 c2]; rfl, rfl⟩
  refine x_c rfl ?_
  refine x_go rfl ?_
  refine x_retz rfl (Nat.le_of_ble_eq_true rfl) (Nat.le_of_ble_eq_true rfl) rfl (by first | rfl | assumption) ?_
  exact ⟨by rw [c_okN hl c1 c2]; rfl, rfl⟩
theorem c_isMark {x : Int32} {n : Nat} (h : F 6 5 = nI n) (hl : n < 2 ^ 31) (hn : w.1 = N0) : Ev g (d + 1) 70 [.ref 6, .int x] (cW w F A L) (RetQ (bI (okN x n)) (cW w F A L)) noX := by
  refine ev_X7_isMark ?_ (Nat.le_of_ble_eq_true rfl)
  refine x_lo (lo' := [some (.ref 6), some (.int x)]) rfl ?_
  refine x_il rfl rfl ?_
  refine x_iflt rfl (fun c1 => ?_) (fun c1 => ?_)
  · refine x_c rfl ?_
    refine x_retz rfl (Nat.le_of_ble_eq_true rfl) (Nat.le_of_ble_eq_true rfl) rfl (by first | rfl | assumption) ?_
    exact ⟨by rw [c_noN1 c1]; rfl, rfl⟩
  refine x_il rfl rfl ?_
  refine x_al rfl rfl ?_
  refine x_getC rfl hn (by with_reducible exact (by first | exact sp_6 | exact st_0 (by assumption))) (by exact rfl) ?_
  rw [h]
  refine x_icge rfl (fun c2 => ?_) (fun c2 => ?_)
  · refine x_c rfl ?_
    refine x_retz rfl (Nat.le_of_ble_eq_true rfl) (Nat.le_of_ble_eq_true rfl) rfl (by first | rfl | assumption) ?_
    exact ⟨by rw [c_noN2 c2]; rfl, rfl⟩
  refine x_c rfl ?_
  refine x_go rfl ?_
  refine x_retz rfl (Nat.le_of_ble_eq_true rfl) (Nat.le_of_ble_eq_true rfl) rfl (by first | rfl | assumption) ?_
  exact ⟨by rw [c_okN hl c1 c2]; rfl, rfl⟩
theorem c_isCard {x : Int32} {n : Nat} (h : F 6 6 = nI n) (hl : n < 2 ^ 31) (hn : w.1 = N0) : Ev g (d + 1) 71 [.ref 6, .int x] (cW w F A L) (RetQ (bI (okN x n)) (cW w F A L)) noX := by
  refine ev_X7_isCard ?_ (Nat.le_of_ble_eq_true rfl)
  refine x_lo (lo' := [some (.ref 6), some (.int x)]) rfl ?_
  refine x_il rfl rfl ?_
  refine x_iflt rfl (fun c1 => ?_) (fun c1 => ?_)
  · refine x_c rfl ?_
    refine x_retz rfl (Nat.le_of_ble_eq_true rfl) (Nat.le_of_ble_eq_true rfl) rfl (by first | rfl | assumption) ?_
    exact ⟨by rw [c_noN1 c1]; rfl, rfl⟩
  refine x_il rfl rfl ?_
  refine x_al rfl rfl ?_
  refine x_getC rfl hn (by with_reducible exact (by first | exact sp_6 | exact st_0 (by assumption))) (by exact rfl) ?_
  rw [h]
  refine x_icge rfl (fun c2 => ?_) (fun c2 => ?_)
  · refine x_c rfl ?_
    refine x_retz rfl (Nat.le_of_ble_eq_true rfl) (Nat.le_of_ble_eq_true rfl) rfl (by first | rfl | assumption) ?_
    exact ⟨by rw [c_noN2 c2]; rfl, rfl⟩
  refine x_c rfl ?_
  refine x_go rfl ?_
  refine x_retz rfl (Nat.le_of_ble_eq_true rfl) (Nat.le_of_ble_eq_true rfl) rfl (by first | rfl | assumption) ?_
  exact ⟨by rw [c_okN hl c1 c2]; rfl, rfl⟩
theorem c_isFinger {x : Int32} (hn : w.1 = N0) : Ev g (d + 1) 72 [.int x] w (RetQ (bI (okN x 10)) w) noX := by
  refine ev_X7_isFinger ?_ (Nat.le_of_ble_eq_true rfl)
  refine x_lo (lo' := [some (.int x)]) rfl ?_
  refine x_il rfl rfl ?_
  refine x_iflt rfl (fun c1 => ?_) (fun c1 => ?_)
  · refine x_c rfl ?_
    refine x_retz rfl (Nat.le_of_ble_eq_true rfl) (Nat.le_of_ble_eq_true rfl) rfl (by first | rfl | assumption) ?_
    exact ⟨by rw [c_noN1 c1]; rfl, rfl⟩
  refine x_il rfl rfl ?_
  refine x_c rfl ?_
  refine x_icge rfl (fun c2 => ?_) (fun c2 => ?_)
  · refine x_c rfl ?_
    refine x_retz rfl (Nat.le_of_ble_eq_true rfl) (Nat.le_of_ble_eq_true rfl) rfl (by first | rfl | assumption) ?_
    exact ⟨by rw [c_noN2 (n := 10) c2]; rfl, rfl⟩
  refine x_c rfl ?_
  refine x_go rfl ?_
  refine x_retz rfl (Nat.le_of_ble_eq_true rfl) (Nat.le_of_ble_eq_true rfl) rfl (by first | rfl | assumption) ?_
  exact ⟨by rw [c_okN (n := 10) (by omega) c1 c2]; rfl, rfl⟩
theorem c_textOn {day : Int32} (hR : RS F A f 6 np nm nc nt ns nh) (h10 : nt ≤ 10) (hn : w.1 = N0) : Ev g (d + 1) 68 [.ref 6, .int day] (cW w F A L) (fun v w' => v = some (.ref (teQ (bestT f day nt))) ∧ w' = cW w F A L) noX := by
  have hnt : F 6 7 = nI nt := hR.1.2.2.2.2.2.2.2
  have hfr : ∀ t, t < nt → F (641 + 6 * t) 0 = f (12826 + 850 * t) := fun t ht => by
    obtain ⟨r, hr⟩ := hR.tx ht
    exact hr.2.2.2.1
  have loop : ∀ t, t ≤ nt → EX g mbOf (Ev g (d)) (infoOf 68) k_X7_textOn (fun v w' => v = some (.ref (teQ (bestT f day nt))) ∧ w' = cW w F A L) noX w.1 (cW w F A L) 0 0 4 [some (.ref 6), some (.int day), some (.int (oI (bestT f day t))), some (.int (nI t))] [] := by
    refine downN nt fun t ht ih => ?_
    refine x_il rfl rfl ?_
    refine x_al rfl rfl ?_
    refine x_getC rfl hn (by with_reducible exact (by first | exact sp_6 | exact st_0 (by assumption))) (by exact rfl) ?_
    rw [hnt]
    refine x_icgeN rfl (by omega) (fun c => ?_) (fun c => ?_)
    · refine x_il rfl rfl ?_
      refine x_c rfl ?_
      obtain rfl : t = nt := by omega
      have hlt := bestT_lt (f := f) (day := day) t
      generalize bestT f day t = b at *
      cases b with
      | none =>
        refine x_icne rfl (fun e9 => absurd rfl e9) (fun e9 => ?_)
        refine x_al rfl rfl ?_
        refine x_getC rfl hn (by with_reducible exact (by first | exact sp_6 | exact st_0 (by assumption))) (by exact rfl) ?_
        refine x_go rfl ?_
        refine x_reta rfl (Nat.le_of_ble_eq_true rfl) (Nat.le_of_ble_eq_true rfl) rfl ?_
        exact ⟨rfl, rfl⟩
      | some b =>
        have := hlt b rfl
        refine x_icne rfl (fun e9 => ?_) (fun e9 => absurd e9 (nI_m1 (by omega)))
        rw [show oI (some b) = nI b from rfl]
        refine x_al rfl rfl ?_
        refine x_getC rfl hn (by with_reducible exact (by first | exact sp_6 | exact st_0 (by assumption))) (by exact rfl) ?_
        refine x_il rfl rfl ?_
        refine x_aaC rfl hn (by with_reducible exact sp_10) (by decide) (by omega) ?_
        refine x_reta rfl (Nat.le_of_ble_eq_true rfl) (Nat.le_of_ble_eq_true rfl) rfl ?_
        exact ⟨rfl, rfl⟩
    refine x_al rfl rfl ?_
    refine x_getC rfl hn (by with_reducible exact (by first | exact sp_6 | exact st_0 (by assumption))) (by exact rfl) ?_
    refine x_il rfl rfl ?_
    refine x_aaC rfl hn (by with_reducible exact sp_10) (by decide) (by omega) ?_
    refine x_getC rfl hn (by with_reducible exact te_0 (by first | assumption | exact teA (by omega) | exact teN | exact teD | exact teB (by assumption) (by omega))) (by exact rfl) ?_
    refine x_il rfl rfl ?_
    have hb : bestT f day (t + 1) = if f (12826 + 850 * t) ≤ day ∧ (∀ c, bestT f day t = some c → f (12826 + 850 * c) ≤ f (12826 + 850 * t)) then some t else bestT f day t := rfl
    have hlt := bestT_lt (f := f) (day := day) t
    have ih := ih c
    have ct := c
    rw [hb] at ih
    have take : (∀ c, bestT f day t = some c → f (12826 + 850 * c) ≤ f (12826 + 850 * t)) → f (12826 + 850 * t) ≤ day → EX g mbOf (Ev g (d)) (infoOf 68) k_X7_textOn (fun v w' => v = some (.ref (teQ (bestT f day nt))) ∧ w' = cW w F A L) noX w.1 (cW w F A L) 0 0 29 [some (.ref 6), some (.int day), some (.int (oI (bestT f day t))), some (.int (nI t))] [] := by
      intro h1 h2
      refine x_il rfl rfl ?_
      refine x_is (lo' := [_, _, _, _]) rfl (Nat.le_of_ble_eq_true rfl) rfl ?_
      refine x_inc1 (lo' := [_, _, _, _]) rfl rfl rfl ?_
      refine x_go rfl ?_
      rw [if_pos ⟨h2, h1⟩] at ih
      exact ih
    have skip : ¬ (f (12826 + 850 * t) ≤ day ∧ (∀ c, bestT f day t = some c → f (12826 + 850 * c) ≤ f (12826 + 850 * t))) → EX g mbOf (Ev g (d)) (infoOf 68) k_X7_textOn (fun v w' => v = some (.ref (teQ (bestT f day nt))) ∧ w' = cW w F A L) noX w.1 (cW w F A L) 0 0 31 [some (.ref 6), some (.int day), some (.int (oI (bestT f day t))), some (.int (nI t))] [] := by
      intro h1
      refine x_inc1 (lo' := [_, _, _, _]) rfl rfl rfl ?_
      refine x_go rfl ?_
      rw [if_neg h1] at ih
      exact ih
    rw [hfr t ct]
    refine x_icgt rfl (fun c1 => ?_) (fun c1 => ?_)
    · skip
      exact skip (fun h => absurd c1 (Int32.not_lt.mpr h.1))
    refine x_il rfl rfl ?_
    refine x_c rfl ?_
    have c1 := Int32.not_lt.mp c1
    generalize hbb : bestT f day t = b at *
    cases b with
    | none =>
      refine x_iceq rfl (fun e9 => ?_) (fun e9 => absurd rfl e9)
      exact take (fun c h => by cases h) c1
    | some b =>
      have hb10 := hlt b rfl
      rw [show oI (some b) = nI b from rfl]
      refine x_iceq rfl (fun e9 => absurd e9 (nI_m1 (by omega))) (fun e9 => ?_)
      refine x_al rfl rfl ?_
      refine x_getC rfl hn (by with_reducible exact (by first | exact sp_6 | exact st_0 (by assumption))) (by exact rfl) ?_
      refine x_il rfl rfl ?_
      refine x_aaC rfl hn (by with_reducible exact sp_10) (by decide) (by omega) ?_
      refine x_getC rfl hn (by with_reducible exact te_0 (by first | assumption | exact teA (by omega) | exact teN | exact teD | exact teB (by assumption) (by omega))) (by exact rfl) ?_
      refine x_al rfl rfl ?_
      refine x_getC rfl hn (by with_reducible exact (by first | exact sp_6 | exact st_0 (by assumption))) (by exact rfl) ?_
      rw [hfr t ct]
      refine x_il rfl rfl ?_
      refine x_aaC rfl hn (by with_reducible exact sp_10) (by decide) (by omega) ?_
      refine x_getC rfl hn (by with_reducible exact te_0 (by first | assumption | exact teA (by omega) | exact teN | exact teD | exact teB (by assumption) (by omega))) (by exact rfl) ?_
      rw [hfr b (by omega)]
      refine x_iclt rfl (fun c2 => ?_) (fun c2 => ?_)
      · skip
        exact skip (fun h => absurd c2 (Int32.not_lt.mpr (h.2 b rfl)))
      exact take (fun c h => by cases h; exact Int32.not_lt.mp c2) c1
  refine ev_X7_textOn ?_ (Nat.le_of_ble_eq_true rfl)
  refine x_lo (lo' := [some (.ref 6), some (.int day), none, none]) rfl ?_
  refine x_c rfl ?_
  refine x_is (lo' := [_, _, _, _]) rfl (Nat.le_of_ble_eq_true rfl) rfl ?_
  refine x_c rfl ?_
  refine x_is (lo' := [_, _, _, _]) rfl (Nat.le_of_ble_eq_true rfl) rfl ?_
  exact loop 0 (Nat.zero_le _)
theorem RS.txo (hR : RS F A f 6 np nm nc nt ns nh) (day : Int32) : TxO F A (teQ (bestT f day nt)) f (bestT f day nt) := by
  have hlt := bestT_lt (f := f) (day := day) nt
  generalize bestT f day nt = b at *
  cases b with
  | none => exact hR.no
  | some t => exact hR.tx (hlt t rfl)
theorem te_q {o : Option Nat} (h : ∀ t, o = some t → t < 10) : TeAt (teQ o) := by
  cases o with
  | none => exact teN
  | some t => exact teA (h t rfl)
theorem te_b {day : Int32} (h10 : nt ≤ 10) : TeAt (teQ (bestT f day nt)) := te_q fun t h => Nat.lt_of_lt_of_le (bestT_lt nt t h) h10
theorem c_isInFile {c : Nat} (hR : RS F A f 6 np nm nc nt ns nh) (hI : IV f np nm nc nt ns nh) (hc : c < nc) (hn : w.1 = N0) : Ev g (d + 2) 73 [.ref 6, .int (nI c)] (cW w F A L) (RetQ (bI (decide (f (6607 + 26 * c + 2) < 0))) (cW w F A L)) noX := by
  have h16 := hI.c16
  have hN := (hI.ca hc).2.1.neg
  have h2 := (hR.ca hc).1.2.2
  refine ev_X7_isInFile ?_ (Nat.le_of_ble_eq_true rfl)
  refine x_lo (lo' := [some (.ref 6), some (.int (nI c))]) rfl ?_
  refine x_al rfl rfl ?_
  refine x_il rfl rfl ?_
  refine x_call2 (c_isCard hR.1.2.2.2.2.2.2.1 (by omega) hn) rfl (Nat.le_of_ble_eq_true rfl) (Or.inl (by first | exact hn | assumption)) (rcv_at (cw_fs (by with_reducible exact (by first | exact sp_6 | exact st_0 (by assumption))) hn) (by decide) (by decide)) (Nat.le_of_ble_eq_true rfl) (Nat.le_of_ble_eq_true rfl) (fun E w9 hq => hq.elim) ?_
  rintro v9 w9 ⟨rfl, rfl⟩
  rw [okN_n hc (by omega)]
  refine x_ifeq rfl (fun e => absurd e (show ¬ (1 : Int32) = 0 by decide)) (fun e => ?_)
  refine x_al rfl rfl ?_
  refine x_getC rfl hn (by with_reducible exact (by first | exact sp_6 | exact st_0 (by assumption))) (by exact rfl) ?_
  refine x_il rfl rfl ?_
  refine x_aaC rfl hn (by with_reducible exact sp_9) (by decide) (by omega) ?_
  refine x_getC rfl hn (by with_reducible exact ca_0 (by first | assumption | exact caA (by omega) | exact caB (by assumption) (by omega))) (by exact rfl) ?_
  refine x_c rfl ?_
  rw [h2]
  refine x_icne rfl (fun e => ?_) (fun e => ?_)
  · refine x_c rfl ?_
    refine x_retz rfl (Nat.le_of_ble_eq_true rfl) (Nat.le_of_ble_eq_true rfl) rfl (by first | rfl | assumption) ?_
    exact ret_f (fun h => e (hN.mpr h))
  refine x_c rfl ?_
  refine x_go rfl ?_
  refine x_retz rfl (Nat.le_of_ble_eq_true rfl) (Nat.le_of_ble_eq_true rfl) rfl (by first | rfl | assumption) ?_
  exact ret_t (hN.mp e)
theorem c_printAt {c j : Nat} (hR : RS F A f 6 np nm nc nt ns nh) (h16 : nc ≤ 16) (hc : c < nc) (hj : j < 10) (hn : w.1 = N0) : Ev g (d + 2) 74 [.ref 6, .int (nI c), .int (nI j)] (cW w F A L) (RetQ (f (6607 + 26 * c + (6 + j))) (cW w F A L)) noX := by
  have h2 := ((hR.ca hc).2.1 j hj).1
  refine ev_X7_printAt ?_ (Nat.le_of_ble_eq_true rfl)
  refine x_lo (lo' := [some (.ref 6), some (.int (nI c)), some (.int (nI j))]) rfl ?_
  refine x_al rfl rfl ?_
  refine x_il rfl rfl ?_
  refine x_call2 (c_isCard hR.1.2.2.2.2.2.2.1 (by omega) hn) rfl (Nat.le_of_ble_eq_true rfl) (Or.inl (by first | exact hn | assumption)) (rcv_at (cw_fs (by with_reducible exact (by first | exact sp_6 | exact st_0 (by assumption))) hn) (by decide) (by decide)) (Nat.le_of_ble_eq_true rfl) (Nat.le_of_ble_eq_true rfl) (fun E w9 hq => hq.elim) ?_
  rintro v9 w9 ⟨rfl, rfl⟩
  rw [okN_n hc (by omega)]
  refine x_ifeq rfl (fun e => absurd e (show ¬ (1 : Int32) = 0 by decide)) (fun e => ?_)
  refine x_il rfl rfl ?_
  refine x_call1 (c_isFinger hn) rfl (Nat.le_of_ble_eq_true rfl) (Or.inl (by first | exact hn | assumption)) trivial (Nat.le_of_ble_eq_true rfl) (Nat.le_of_ble_eq_true rfl) (fun E w9 hq => hq.elim) ?_
  rintro v9 w9 ⟨rfl, rfl⟩
  rw [okN_n hj (by omega)]
  refine x_ifeq rfl (fun e => absurd e (show ¬ (1 : Int32) = 0 by decide)) (fun e => ?_)
  refine x_al rfl rfl ?_
  refine x_getC rfl hn (by with_reducible exact (by first | exact sp_6 | exact st_0 (by assumption))) (by exact rfl) ?_
  refine x_il rfl rfl ?_
  refine x_aaC rfl hn (by with_reducible exact sp_9) (by decide) (by omega) ?_
  refine x_getC rfl hn (by with_reducible exact ca_0 (by first | assumption | exact caA (by omega) | exact caB (by assumption) (by omega))) (by exact rfl) ?_
  refine x_il rfl rfl ?_
  refine x_iaC rfl hn (by with_reducible exact ca_1 (by first | assumption | exact caA (by omega) | exact caB (by assumption) (by omega))) (by omega) ?_
  refine x_go rfl ?_
  refine x_reti rfl (Nat.le_of_ble_eq_true rfl) (Nat.le_of_ble_eq_true rfl) rfl ?_
  exact ⟨by rw [h2], rfl⟩
/-- the class shown by a finger, -1 if it is missing -/
def shC (f : Nat → Int32) (c j : Nat) : Int32 := if f (6607 + 26 * c + (6 + j)) < 0 then -1 else clsF f (cN (f (6607 + 26 * c + (6 + j))))
theorem c_shownClass {c j : Nat} (hR : RS F A f 6 np nm nc nt ns nh) (hI : IV f np nm nc nt ns nh) (hc : c < nc) (hj : j < 10) (hn : w.1 = N0) : Ev g (d + 3) 75 [.ref 6, .int (nI c), .int (nI j)] (cW w F A L) (RetQ (shC f c j) (cW w F A L)) noX := by
  have h60 := hI.p60
  unfold shC
  refine ev_X7_shownClass ?_ (Nat.le_of_ble_eq_true rfl)
  refine x_lo (lo' := [some (.ref 6), some (.int (nI c)), some (.int (nI j)), none]) rfl ?_
  refine x_al rfl rfl ?_
  refine x_il rfl rfl ?_
  refine x_il rfl rfl ?_
  refine x_call3 (c_printAt hR hI.c16 hc hj hn) rfl (Nat.le_of_ble_eq_true rfl) (Or.inl (by first | exact hn | assumption)) (rcv_at (cw_fs (by with_reducible exact (by first | exact sp_6 | exact st_0 (by assumption))) hn) (by decide) (by decide)) (Nat.le_of_ble_eq_true rfl) (Nat.le_of_ble_eq_true rfl) (fun E w9 hq => hq.elim) ?_
  rintro v9 w9 ⟨rfl, rfl⟩
  refine x_is (lo' := [_, _, _, _]) rfl (Nat.le_of_ble_eq_true rfl) rfl ?_
  refine x_al rfl rfl ?_
  refine x_il rfl rfl ?_
  refine x_call2 (c_isPrint hR.1.2.2.2.2.1 (by omega) hn) rfl (Nat.le_of_ble_eq_true rfl) (Or.inl (by first | exact hn | assumption)) (rcv_at (cw_fs (by with_reducible exact (by first | exact sp_6 | exact st_0 (by assumption))) hn) (by decide) (by decide)) (Nat.le_of_ble_eq_true rfl) (Nat.le_of_ble_eq_true rfl) (fun E w9 hq => hq.elim) ?_
  rintro v9 w9 ⟨rfl, rfl⟩
  rcases ((hI.ca hc).2.2.2.1 j hj).1 with e | ⟨p, hp, e⟩
  · rw [e, show okN (-1) np = false from c_noN1 (by decide)]
    refine x_ifeq rfl (fun e9 => ?_) (fun e9 => absurd rfl e9)
    refine x_c rfl ?_
    refine x_reti rfl (Nat.le_of_ble_eq_true rfl) (Nat.le_of_ble_eq_true rfl) rfl ?_
    exact ⟨by rw [if_pos (by decide)], rfl⟩
  · rw [e, okN_n hp (by omega)]
    refine x_ifeq rfl (fun e => absurd e (show ¬ (1 : Int32) = 0 by decide)) (fun e => ?_)
    refine x_al rfl rfl ?_
    refine x_getC rfl hn (by with_reducible exact (by first | exact sp_6 | exact st_0 (by assumption))) (by exact rfl) ?_
    refine x_il rfl rfl ?_
    refine x_aaC rfl hn (by with_reducible exact sp_7) (by decide) (by omega) ?_
    refine x_getC rfl hn (by with_reducible exact pr_0 (by first | assumption | exact prA (by omega) | exact prD | exact prB (by assumption) (by omega))) (by exact rfl) ?_
    refine x_go rfl ?_
    refine x_reti rfl (Nat.le_of_ble_eq_true rfl) (Nat.le_of_ble_eq_true rfl) rfl ?_
    exact ⟨by rw [if_neg (nI_pos (by omega)), (hR.pr hp).2.1.2.2, show cN (nI p) = p from nI_clamp (by omega)], rfl⟩
theorem c_countInFile (hR : RS F A f 6 np nm nc nt ns nh) (hI : IV f np nm nc nt ns nh) (hn : w.1 = N0) : Ev g (d + 3) 76 [.ref 6] (cW w F A L) (RetQ (nI (cn (fun c => decide (f (6607 + 26 * c + 2) < 0)) nc)) (cW w F A L)) noX := by
  have h16 := hI.c16
  have loop : ∀ c, c ≤ nc → EX g mbOf (Ev g (d + 2)) (infoOf 76) k_X7_countInFile (RetQ (nI (cn (fun c => decide (f (6607 + 26 * c + 2) < 0)) nc)) (cW w F A L)) noX w.1 (cW w F A L) 0 0 4 [some (.ref 6), some (.int (nI (cn (fun c => decide (f (6607 + 26 * c + 2) < 0)) c))), some (.int (nI c))] [] := by
    refine downN nc fun c hc ih => ?_
    refine x_il rfl rfl ?_
    refine x_al rfl rfl ?_
    refine x_getC rfl hn (by with_reducible exact (by first | exact sp_6 | exact st_0 (by assumption))) (by exact rfl) ?_
    rw [show F 6 6 = nI nc from hR.1.2.2.2.2.2.2.1]
    refine x_icgeN rfl (by omega) (fun c1 => ?_) (fun c1 => ?_)
    · refine x_il rfl rfl ?_
      refine x_reti rfl (Nat.le_of_ble_eq_true rfl) (Nat.le_of_ble_eq_true rfl) rfl ?_
      obtain rfl : c = nc := by omega
      exact ⟨rfl, rfl⟩
    refine x_il rfl rfl ?_
    refine x_al rfl rfl ?_
    refine x_il rfl rfl ?_
    have ih := ih c1
    refine x_call2 (c_isInFile hR hI c1 hn) rfl (Nat.le_of_ble_eq_true rfl) (Or.inl (by first | exact hn | assumption)) (rcv_at (cw_fs (by with_reducible exact (by first | exact sp_6 | exact st_0 (by assumption))) hn) (by decide) (by decide)) (Nat.le_of_ble_eq_true rfl) (Nat.le_of_ble_eq_true rfl) (fun E w9 hq => hq.elim) ?_
    rintro v9 w9 ⟨rfl, rfl⟩
    refine x_ifeqB rfl (fun c2 => ?_) (fun c2 => ?_)
    · refine x_c rfl ?_
      refine x_addN (y := 0) rfl ?_
      refine x_is (lo' := [_, _, _]) rfl (Nat.le_of_ble_eq_true rfl) rfl ?_
      refine x_inc1 (lo' := [_, _, _]) rfl rfl rfl ?_
      refine x_go rfl ?_
      rw [cn_f (by rw [decide_eq_true_iff]; exact c2)] at ih
      exact ih
    refine x_c rfl ?_
    refine x_go rfl ?_
    refine x_addN (y := 1) rfl ?_
    refine x_is (lo' := [_, _, _]) rfl (Nat.le_of_ble_eq_true rfl) rfl ?_
    refine x_inc1 (lo' := [_, _, _]) rfl rfl rfl ?_
    refine x_go rfl ?_
    rw [cn_t (by rw [decide_eq_true_iff]; exact c2)] at ih
    exact ih
  refine ev_X7_countInFile ?_ (Nat.le_of_ble_eq_true rfl)
  refine x_lo (lo' := [some (.ref 6), none, none]) rfl ?_
  refine x_c rfl ?_
  refine x_is (lo' := [_, _, _]) rfl (Nat.le_of_ble_eq_true rfl) rfl ?_
  refine x_c rfl ?_
  refine x_is (lo' := [_, _, _]) rfl (Nat.le_of_ble_eq_true rfl) rfl ?_
  exact loop 0 (Nat.zero_le _)
theorem c_countPrints {j : Nat} (hR : RS F A f 6 np nm nc nt ns nh) (hI : IV f np nm nc nt ns nh) (hj : j < 10) (hn : w.1 = N0) : Ev g (d + 3) 77 [.ref 6, .int (nI j)] (cW w F A L) (RetQ (nI (alN f j nc)) (cW w F A L)) noX := by
  have h16 := hI.c16
  have loop : ∀ c, c ≤ nc → EX g mbOf (Ev g (d + 2)) (infoOf 77) k_X7_countPrints (RetQ (nI (alN f j nc)) (cW w F A L)) noX w.1 (cW w F A L) 0 0 4 [some (.ref 6), some (.int (nI j)), some (.int (nI (alN f j c))), some (.int (nI c))] [] := by
    refine downN nc fun c hc ih => ?_
    refine x_il rfl rfl ?_
    refine x_al rfl rfl ?_
    refine x_getC rfl hn (by with_reducible exact (by first | exact sp_6 | exact st_0 (by assumption))) (by exact rfl) ?_
    rw [show F 6 6 = nI nc from hR.1.2.2.2.2.2.2.1]
    refine x_icgeN rfl (by omega) (fun c1 => ?_) (fun c1 => ?_)
    · refine x_il rfl rfl ?_
      refine x_reti rfl (Nat.le_of_ble_eq_true rfl) (Nat.le_of_ble_eq_true rfl) rfl ?_
      obtain rfl : c = nc := by omega
      exact ⟨rfl, rfl⟩
    refine x_il rfl rfl ?_
    refine x_al rfl rfl ?_
    refine x_il rfl rfl ?_
    have ih := ih c1
    have skip : ¬ inP f j c → EX g mbOf (Ev g (d + 2)) (infoOf 77) k_X7_countPrints (RetQ (nI (alN f j nc)) (cW w F A L)) noX w.1 (cW w F A L) 0 0 21 [some (.ref 6), some (.int (nI j)), some (.int (nI (alN f j c))), some (.int (nI c))] [.int (nI (alN f j c))] := by
      intro h
      rw [show alN f j (c + 1) = alN f j c from cn_f (by rw [decide_eq_true_iff]; exact h)] at ih
      refine x_c rfl ?_
      refine x_addN (y := 0) rfl ?_
      refine x_is (lo' := [_, _, _, _]) rfl (Nat.le_of_ble_eq_true rfl) rfl ?_
      refine x_inc1 (lo' := [_, _, _, _]) rfl rfl rfl ?_
      refine x_go rfl ?_
      exact ih
    refine x_call2 (c_isInFile hR hI c1 hn) rfl (Nat.le_of_ble_eq_true rfl) (Or.inl (by first | exact hn | assumption)) (rcv_at (cw_fs (by with_reducible exact (by first | exact sp_6 | exact st_0 (by assumption))) hn) (by decide) (by decide)) (Nat.le_of_ble_eq_true rfl) (Nat.le_of_ble_eq_true rfl) (fun E w9 hq => hq.elim) ?_
    rintro v9 w9 ⟨rfl, rfl⟩
    refine x_ifeqB rfl (fun c2 => ?_) (fun c2 => ?_)
    · skip
      exact skip (fun h => c2 h.1)
    refine x_al rfl rfl ?_
    refine x_il rfl rfl ?_
    refine x_il rfl rfl ?_
    refine x_call3 (c_printAt hR h16 c1 hj hn) rfl (Nat.le_of_ble_eq_true rfl) (Or.inl (by first | exact hn | assumption)) (rcv_at (cw_fs (by with_reducible exact (by first | exact sp_6 | exact st_0 (by assumption))) hn) (by decide) (by decide)) (Nat.le_of_ble_eq_true rfl) (Nat.le_of_ble_eq_true rfl) (fun E w9 hq => hq.elim) ?_
    rintro v9 w9 ⟨rfl, rfl⟩
    refine x_c rfl ?_
    have hN := FN.neg (by have := hI.p60; omega) ((hI.ca c1).2.2.2.1 j hj).1
    refine x_iceq rfl (fun c3 => ?_) (fun c3 => ?_)
    · skip
      exact skip (fun h => absurd (hN.mp c3) (Int32.not_lt.mpr h.2))
    refine x_c rfl ?_
    refine x_go rfl ?_
    refine x_addN (y := 1) rfl ?_
    refine x_is (lo' := [_, _, _, _]) rfl (Nat.le_of_ble_eq_true rfl) rfl ?_
    refine x_inc1 (lo' := [_, _, _, _]) rfl rfl rfl ?_
    refine x_go rfl ?_
    rw [show alN f j (c + 1) = alN f j c + 1 from cn_t (by rw [decide_eq_true_iff]; exact ⟨c2, Int32.not_lt.mp (fun h => c3 (hN.mpr h))⟩)] at ih
    exact ih
  refine ev_X7_countPrints ?_ (Nat.le_of_ble_eq_true rfl)
  refine x_lo (lo' := [some (.ref 6), some (.int (nI j)), none, none]) rfl ?_
  refine x_c rfl ?_
  refine x_is (lo' := [_, _, _, _]) rfl (Nat.le_of_ble_eq_true rfl) rfl ?_
  refine x_c rfl ?_
  refine x_is (lo' := [_, _, _, _]) rfl (Nat.le_of_ble_eq_true rfl) rfl ?_
  exact loop 0 (Nat.zero_le _)
theorem c_countClass {j : Nat} {cl : Int32} (hR : RS F A f 6 np nm nc nt ns nh) (hI : IV f np nm nc nt ns nh) (hj : j < 10) (hcl : 0 ≤ cl) (hn : w.1 = N0) : Ev g (d + 4) 78 [.ref 6, .int (nI j), .int cl] (cW w F A L) (RetQ (nI (hvN f j cl nc)) (cW w F A L)) noX := by
  have h16 := hI.c16
  have loop : ∀ c, c ≤ nc → EX g mbOf (Ev g (d + 3)) (infoOf 78) k_X7_countClass (RetQ (nI (hvN f j cl nc)) (cW w F A L)) noX w.1 (cW w F A L) 0 0 4 [some (.ref 6), some (.int (nI j)), some (.int cl), some (.int (nI (hvN f j cl c))), some (.int (nI c))] [] := by
    refine downN nc fun c hc ih => ?_
    refine x_il rfl rfl ?_
    refine x_al rfl rfl ?_
    refine x_getC rfl hn (by with_reducible exact (by first | exact sp_6 | exact st_0 (by assumption))) (by exact rfl) ?_
    rw [show F 6 6 = nI nc from hR.1.2.2.2.2.2.2.1]
    refine x_icgeN rfl (by omega) (fun c1 => ?_) (fun c1 => ?_)
    · refine x_il rfl rfl ?_
      refine x_reti rfl (Nat.le_of_ble_eq_true rfl) (Nat.le_of_ble_eq_true rfl) rfl ?_
      obtain rfl : c = nc := by omega
      exact ⟨rfl, rfl⟩
    refine x_il rfl rfl ?_
    refine x_al rfl rfl ?_
    refine x_il rfl rfl ?_
    have ih := ih c1
    have skip : ¬ (inP f j c ∧ clC f c j 0 = cl) → EX g mbOf (Ev g (d + 3)) (infoOf 78) k_X7_countClass (RetQ (nI (hvN f j cl nc)) (cW w F A L)) noX w.1 (cW w F A L) 0 0 21 [some (.ref 6), some (.int (nI j)), some (.int cl), some (.int (nI (hvN f j cl c))), some (.int (nI c))] [.int (nI (hvN f j cl c))] := by
      intro h
      rw [show hvN f j cl (c + 1) = hvN f j cl c from cn_f (by rw [decide_eq_true_iff]; exact h)] at ih
      refine x_c rfl ?_
      refine x_addN (y := 0) rfl ?_
      refine x_is (lo' := [_, _, _, _, _]) rfl (Nat.le_of_ble_eq_true rfl) rfl ?_
      refine x_inc1 (lo' := [_, _, _, _, _]) rfl rfl rfl ?_
      refine x_go rfl ?_
      exact ih
    have hsh : 0 ≤ f (6607 + 26 * c + (6 + j)) → clC f c j 0 = shC f c j := by
      intro h
      unfold clC shC owC
      rw [if_pos h, if_neg (Int32.not_lt.mpr h), bt_0, if_neg (by decide)]
    refine x_call2 (c_isInFile hR hI c1 hn) rfl (Nat.le_of_ble_eq_true rfl) (Or.inl (by first | exact hn | assumption)) (rcv_at (cw_fs (by with_reducible exact (by first | exact sp_6 | exact st_0 (by assumption))) hn) (by decide) (by decide)) (Nat.le_of_ble_eq_true rfl) (Nat.le_of_ble_eq_true rfl) (fun E w9 hq => hq.elim) ?_
    rintro v9 w9 ⟨rfl, rfl⟩
    refine x_ifeqB rfl (fun c2 => ?_) (fun c2 => ?_)
    · skip
      exact skip (fun h => c2 h.1.1)
    refine x_al rfl rfl ?_
    refine x_il rfl rfl ?_
    refine x_il rfl rfl ?_
    refine x_call3 (c_shownClass hR hI c1 hj hn) rfl (Nat.le_of_ble_eq_true rfl) (Or.inl (by first | exact hn | assumption)) (rcv_at (cw_fs (by with_reducible exact (by first | exact sp_6 | exact st_0 (by assumption))) hn) (by decide) (by decide)) (Nat.le_of_ble_eq_true rfl) (Nat.le_of_ble_eq_true rfl) (fun E w9 hq => hq.elim) ?_
    rintro v9 w9 ⟨rfl, rfl⟩
    refine x_il rfl rfl ?_
    refine x_icne rfl (fun c3 => ?_) (fun c3 => ?_)
    · skip
      exact skip (fun h => c3 (by rw [← hsh h.1.2]; exact h.2))
    refine x_c rfl ?_
    refine x_go rfl ?_
    refine x_addN (y := 1) rfl ?_
    refine x_is (lo' := [_, _, _, _, _]) rfl (Nat.le_of_ble_eq_true rfl) rfl ?_
    refine x_inc1 (lo' := [_, _, _, _, _]) rfl rfl rfl ?_
    refine x_go rfl ?_
    have h0 : 0 ≤ f (6607 + 26 * c + (6 + j)) := Int32.not_lt.mp (fun h => by
      unfold shC at c3
      rw [if_pos h] at c3
      rw [← c3] at hcl
      exact absurd hcl (by decide))
    rw [show hvN f j cl (c + 1) = hvN f j cl c + 1 from cn_t (by rw [decide_eq_true_iff]; exact ⟨⟨c2, h0⟩, by rw [hsh h0]; exact c3⟩)] at ih
    exact ih
  refine ev_X7_countClass ?_ (Nat.le_of_ble_eq_true rfl)
  refine x_lo (lo' := [some (.ref 6), some (.int (nI j)), some (.int cl), none, none]) rfl ?_
  refine x_c rfl ?_
  refine x_is (lo' := [_, _, _, _, _]) rfl (Nat.le_of_ble_eq_true rfl) rfl ?_
  refine x_c rfl ?_
  refine x_is (lo' := [_, _, _, _, _]) rfl (Nat.le_of_ble_eq_true rfl) rfl ?_
  exact loop 0 (Nat.zero_le _)
theorem c_isLeft {k c j : Nat} (hR : RS F A f 6 np nm nc nt ns nh) (hI : IV f np nm nc nt ns nh) (hk : k < 20) (hc : c < nc) (hj : j < 10) (hn : w.1 = N0) : Ev g (d + 3) 79 [.ref 6, .int (nI k), .int (nI c), .int (nI j)] (cW w F A L) (RetQ (bI (decide (f (6607 + 26 * c + 2) < 0 ∧ 0 ≤ f (6607 + 26 * c + (6 + j)) ∧ f (7023 + 10 * (16 * k + c) + j) = 0))) (cW w F A L)) noX := by
  have h16 := hI.c16
  have hN := FN.neg (by have := hI.p60; omega) ((hI.ca hc).2.2.2.1 j hj).1
  have hb := ((hR.ca hc).2.1 j hj).2.2 k hk
  refine ev_X7_isLeft ?_ (Nat.le_of_ble_eq_true rfl)
  refine x_lo (lo' := [some (.ref 6), some (.int (nI k)), some (.int (nI c)), some (.int (nI j))]) rfl ?_
  refine x_al rfl rfl ?_
  refine x_il rfl rfl ?_
  refine x_call2 (c_isInFile hR hI hc hn) rfl (Nat.le_of_ble_eq_true rfl) (Or.inl (by first | exact hn | assumption)) (rcv_at (cw_fs (by with_reducible exact (by first | exact sp_6 | exact st_0 (by assumption))) hn) (by decide) (by decide)) (Nat.le_of_ble_eq_true rfl) (Nat.le_of_ble_eq_true rfl) (fun E w9 hq => hq.elim) ?_
  rintro v9 w9 ⟨rfl, rfl⟩
  refine x_ifeqB rfl (fun c2 => ?_) (fun c2 => ?_)
  · refine x_c rfl ?_
    refine x_retz rfl (Nat.le_of_ble_eq_true rfl) (Nat.le_of_ble_eq_true rfl) rfl (by first | rfl | assumption) ?_
    exact ret_f (fun h => c2 h.1)
  refine x_al rfl rfl ?_
  refine x_il rfl rfl ?_
  refine x_il rfl rfl ?_
  refine x_call3 (c_printAt hR h16 hc hj hn) rfl (Nat.le_of_ble_eq_true rfl) (Or.inl (by first | exact hn | assumption)) (rcv_at (cw_fs (by with_reducible exact (by first | exact sp_6 | exact st_0 (by assumption))) hn) (by decide) (by decide)) (Nat.le_of_ble_eq_true rfl) (Nat.le_of_ble_eq_true rfl) (fun E w9 hq => hq.elim) ?_
  rintro v9 w9 ⟨rfl, rfl⟩
  refine x_c rfl ?_
  refine x_iceq rfl (fun c3 => ?_) (fun c3 => ?_)
  · refine x_c rfl ?_
    refine x_retz rfl (Nat.le_of_ble_eq_true rfl) (Nat.le_of_ble_eq_true rfl) rfl (by first | rfl | assumption) ?_
    exact ret_f (fun h => absurd (hN.mp c3) (Int32.not_lt.mpr h.2.1))
  refine x_al rfl rfl ?_
  refine x_getC rfl hn (by with_reducible exact (by first | exact sp_6 | exact st_0 (by assumption))) (by exact rfl) ?_
  refine x_il rfl rfl ?_
  refine x_aaC rfl hn (by with_reducible exact sp_9) (by decide) (by omega) ?_
  refine x_getC rfl hn (by with_reducible exact ca_0 (by first | assumption | exact caA (by omega) | exact caB (by assumption) (by omega))) (by exact rfl) ?_
  refine x_il rfl rfl ?_
  refine x_iaC rfl hn (by with_reducible exact ca_3 (by first | assumption | exact caA (by omega) | exact caB (by assumption) (by omega))) (by omega) ?_
  refine x_il rfl rfl ?_
  refine x_shr rfl ?_
  refine x_c rfl ?_
  refine x_and rfl ?_
  rw [bt_shr (by omega), hb]
  have h0 := Int32.not_lt.mp (fun h => c3 (hN.mpr h))
  refine x_ifneB rfl (fun c4 => ?_) (fun c4 => ?_)
  · refine x_c rfl ?_
    refine x_retz rfl (Nat.le_of_ble_eq_true rfl) (Nat.le_of_ble_eq_true rfl) rfl (by first | rfl | assumption) ?_
    exact ret_f (fun h => c4 h.2.2)
  refine x_c rfl ?_
  refine x_go rfl ?_
  refine x_retz rfl (Nat.le_of_ble_eq_true rfl) (Nat.le_of_ble_eq_true rfl) rfl (by first | rfl | assumption) ?_
  exact ret_t ⟨c2, h0, Classical.byContradiction c4⟩
end CALLS
