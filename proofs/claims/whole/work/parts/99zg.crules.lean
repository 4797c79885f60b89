/-! rules, image and back of the class; cw_ -/
def frY (F A F' A' : Nat → Nat → Int32) : Prop := F' 0 = F 0 ∧ A' 2 = A 2 ∧ ∀ q, ((701 ≤ q ∧ q < 1396) ∨ q = 1409) → F' q = F q ∧ A' q = A q
theorem frR.y {F A F' A' : Nat → Nat → Int32} (h : frR F A F' A') : frY F A F' A' := ⟨(h 0 (by omega)).1, (h 2 (by omega)).2, fun q hq => h q (by omega)⟩
theorem wrL_at : ∀ (L : List (Int32 × Int32)) (f : Nat → Int32) (st k : Nat) (x : Int32 × Int32), L[k]? = some x → wrL f st L (21376 + 2 * (st + k)) = x.1 ∧ wrL f st L (21376 + 2 * (st + k) + 1) = x.2 := by
  intro L
  induction L with
  | nil => intro f st k x h; simp at h
  | cons y L ih =>
    intro f st k x h
    show wrL _ (st + 1) L _ = _ ∧ wrL _ (st + 1) L _ = _
    cases k with
    | zero =>
      have e : y = x := by simpa using h
      subst e
      rw [wrL_lo _ _ _ _ (by omega), wrL_lo _ _ _ _ (by omega)]
      exact ⟨by rw [upd_ne (by omega)]; exact upd_at, upd_at⟩
    | succ k =>
      have := ih (upd (upd f (21376 + 2 * st) y.1) (21376 + 2 * st + 1) y.2) (st + 1) k x (by simpa using h)
      rw [show st + (k + 1) = st + 1 + k by omega]
      exact this
theorem cpT_at {t : Nat} {f : Nat → Int32} (ht : t < 10) : ∀ n i, n ≤ 850 → cpT t f n i = if 12826 + 850 * t ≤ i ∧ i < 12826 + 850 * t + n then f (21326 + (i - (12826 + 850 * t))) else f i := by
  intro n
  induction n with
  | zero => intro i _; rw [if_neg (by omega)]; rfl
  | succ n ih =>
    intro i hn
    show upd (cpT t f n) (12826 + 850 * t + n) (cpT t f n (21326 + n)) i = _
    by_cases e : i = 12826 + 850 * t + n
    · subst e
      rw [upd_at, ih _ (by omega), if_neg (by omega), if_pos (by omega), show 12826 + 850 * t + n - (12826 + 850 * t) = n by omega]
    · rw [upd_ne e, ih _ (by omega)]
      by_cases h : 12826 + 850 * t ≤ i ∧ i < 12826 + 850 * t + n
      · rw [if_pos h, if_pos (by omega)]
      · rw [if_neg h, if_neg (by omega)]
section K
variable {fx f : Nat → Int32} {t : Nat} {day n : Int32}
theorem putT_o {i : Nat} (ht : t < 10) (h1 : i ≠ 12825) (h2 : i < 12826 + 850 * t ∨ 12826 + 850 * t + 850 ≤ i) : putT fx t day n i = fx i := by
  unfold putT
  rw [upd_ne (by omega), upd_ne (by omega), cpT_at ht _ _ (Nat.le_refl _), if_neg (by omega), upd_ne h1]
theorem putT_c (ht : t < 10) : putT fx t day n 12825 = nI (t + 1) := by
  unfold putT
  rw [upd_ne (by omega), upd_ne (by omega), cpT_at ht _ _ (Nat.le_refl _), if_neg (by omega), upd_at]
theorem putT_d (ht : t < 10) : putT fx t day n (12826 + 850 * t) = day := by
  unfold putT
  rw [upd_ne (by omega), upd_at]
theorem putT_n : putT fx t day n (12826 + 850 * t + 1) = n := by
  unfold putT
  exact upd_at
theorem putT_k {k : Nat} (ht : t < 10) (h2 : 2 ≤ k) (hk : k < 850) : putT fx t day n (12826 + 850 * t + k) = fx (21326 + k) := by
  unfold putT
  rw [upd_ne (by omega), upd_ne (by omega), cpT_at ht _ _ (Nat.le_refl _), if_pos (by omega), upd_ne (by omega), show 12826 + 850 * t + k - (12826 + 850 * t) = k by omega]
/-- a text that was read and put down is the class's -/
theorem TxS_put {F A : Nat → Nat → Int32} {q en : Nat} {rows : List RW4} {steps : List (Int32 × Int32)} (ht : t < 10) (hr12 : rows.length ≤ 12) (hen : steps.length ≤ 400) (hRT : RTL rows steps) (hrows : rowsAt fx rows) (hst : ∀ i, 21376 ≤ i → fx i = wrL f 0 steps i) (h0 : F q 0 = day) (h1 : F q 1 = nI rows.length) (hk : ∀ (i : Nat) (r : RW4), rows[i]? = some r → A (q + 1) i = nI r.1 ∧ A (q + 2) i = r.2.1 ∧ A (q + 3) i = nI r.2.2.1 ∧ A (q + 4) i = nI r.2.2.2) (hc : CoR (A (q + 5)) 0 steps) : TxS F A q (putT fx t day (nI rows.length)) t rows.length := by
  have hrl : ∀ i j, i < 12 → j < 4 → putT fx t day (nI rows.length) (rl t i + j) = fx (21328 + 4 * i + j) := fun i j hi hj => by
    have := putT_k (fx := fx) (t := t) (day := day) (n := nI rows.length) (k := 2 + 4 * i + j) ht (by omega) (by omega)
    rw [show rl t i + j = 12826 + 850 * t + (2 + 4 * i + j) by unfold rl; omega, this, show 21326 + (2 + 4 * i + j) = 21328 + 4 * i + j by omega]
  have hrl0 : ∀ i, i < 12 → putT fx t day (nI rows.length) (rl t i) = fx (21328 + 4 * i) := fun i hi => hrl i 0 hi (by decide)
  have hcd : ∀ i x, steps[i]? = some x → putT fx t day (nI rows.length) (cd t i) = x.1 ∧ putT fx t day (nI rows.length) (cd t i + 1) = x.2 := fun i x hx => by
    have hi : i < steps.length := by
      rcases Nat.lt_or_ge i steps.length with h | h
      · exact h
      · rw [List.getElem?_eq_none h] at hx; cases hx
    have a := putT_k (fx := fx) (t := t) (day := day) (n := nI rows.length) (k := 50 + 2 * i) ht (by omega) (by omega)
    have b := putT_k (fx := fx) (t := t) (day := day) (n := nI rows.length) (k := 50 + 2 * i + 1) ht (by omega) (by omega)
    have w := wrL_at steps f 0 i x hx
    rw [Nat.zero_add] at w
    rw [show cd t i = 12826 + 850 * t + (50 + 2 * i) by unfold cd; omega, show 12826 + 850 * t + (50 + 2 * i) + 1 = 12826 + 850 * t + (50 + 2 * i + 1) by omega, a, b, hst _ (by omega), hst _ (by omega), show 21326 + (50 + 2 * i) = 21376 + 2 * i by omega, show 21326 + (50 + 2 * i + 1) = 21376 + 2 * i + 1 by omega]
    exact w
  have hget : ∀ i, i < rows.length → ∃ r, rows[i]? = some r := fun i hi => ⟨rows[i], List.getElem?_eq_getElem hi⟩
  refine ⟨hr12, h1, putT_n, by rw [putT_d ht]; exact h0, fun i hi => ?_, steps.length, hen, fun i hi => ?_, fun i hi => ?_⟩
  · obtain ⟨r, hr⟩ := hget i hi
    obtain ⟨a1, a2, a3, a4⟩ := hk i r hr
    obtain ⟨b1, b2, b3, b4⟩ := hrows i r hr
    rw [hrl0 i (by omega), hrl i 1 (by omega) (by decide), hrl i 2 (by omega) (by decide), hrl i 3 (by omega) (by decide), a1, a2, a3, a4]
    exact ⟨b1.symm, b2.symm, b3.symm, b4.symm⟩
  · obtain ⟨r, hr⟩ := hget i hi
    obtain ⟨b1, b2, b3, b4⟩ := hrows i r hr
    obtain ⟨c1, ⟨v, c2, c3, c4⟩, c5, c6, c7⟩ := hRT i r hr
    refine ⟨⟨r.1, c1, by rw [hrl0 i (by omega)]; exact b1⟩, ⟨v, c2, by rw [hrl i 1 (by omega) (by decide), ← c3]; exact b2, fun h => c4 ?_⟩, r.2.2.1, r.2.2.2, c5, c6, by rw [hrl i 2 (by omega) (by decide)]; exact b3, by rw [hrl i 3 (by omega) (by decide)]; exact b4, c7 _ t (fun k x hx => (hcd k x hx).1)⟩
    rw [hrl0 i (by omega), b1] at h
    exact (nI_eq (a := r.1) (b := 2) (by omega) (by omega)).mp h
  · obtain ⟨x, hx⟩ : ∃ x, steps[i]? = some x := ⟨steps[i], List.getElem?_eq_getElem hi⟩
    have := hc i x hx
    rw [Nat.zero_add] at this
    rw [(hcd i x hx).1, (hcd i x hx).2]
    exact this
end K
def RuC (w : aW) (F A : Nat → Nat → Int32) (f : Nat → Int32) (np nm nc nt ns nh v : Nat) (R : TR) (day : Int32) : Option Value → aW → Prop := fun v1 w' => (f 0 ≤ day ∧ day ≤ 2000) ∧ R.1 = true ∧ ¬ nt = 10 ∧ v1 = some (.int (nI R.2.2.1.length)) ∧ ∃ F' A' L', w' = cW w F' A' L' ∧ (F' 1 1 = 0 ∧ F' 1 2 = -1) ∧ frY F A F' A' ∧ ∀ fx : Nat → Int32, (∀ i, i < 21328 → fx i = f i) → rowsAt fx R.2.2.1 → (∀ i, 21376 ≤ i → fx i = wrL f 0 R.2.2.2 i) → RS F' A' (putT fx nt day (nI R.2.2.1.length)) 6 np nm nc (nt + 1) ns nh ∧ IV (putT fx nt day (nI R.2.2.1.length)) np nm nc (nt + 1) ns nh ∧ KI F' A' (putT fx nt day (nI R.2.2.1.length)) np nm v
def RuX (w : aW) (F A : Nat → Nat → Int32) (f : Nat → Int32) (np nm nc nt ns nh v : Nat) (R : TR) (day : Int32) : String → aW → Prop := fun E w' => ∃ F' A' L', w' = cW w F' A' L' ∧ F' 1 1 = 0 ∧ frY F A F' A' ∧ RS F' A' f 6 np nm nc nt ns nh ∧ KI F' A' f np nm v ∧ ((¬ (f 0 ≤ day ∧ day ≤ 2000) ∧ E = exN 0 ∧ F' 1 2 = F 1 2) ∨ ((f 0 ≤ day ∧ day ≤ 2000) ∧ R.1 = false ∧ E = exN 0 ∧ F' 1 2 = nI R.2.1) ∨ ((f 0 ≤ day ∧ day ≤ 2000) ∧ R.1 = true ∧ nt = 10 ∧ E = exN 1 ∧ F' 1 2 = -1))
section CALLS
variable {g : aG} {d : Nat} {w : aW} {F A : Nat → Nat → Int32} {L : Nat → Int64} {f : Nat → Int32} {np nm nc nt ns nh v : Nat}
theorem c_rules {t : Nat → Int32} {b : Nat → Nat} {en : Nat} {day : Int32} (hT : HTx g) (hB : TpR t (A 2) en b) (hl : F 1 1 = nI en) (hen : en ≤ 400) (hK : KI F A f np nm v) (hR : RS F A f 6 np nm nc nt ns nh) (hI : IV f np nm nc nt ns nh) (hn : w.1 = N0) : Ev g (d + 40) 132 [.ref 0, .int day] (cW w F A L) (RuC w F A f np nm nc nt ns nh v (pText t en 0) day) (RuX w F A f np nm nc nt ns nh v (pText t en 0) day) := by
  have h60 := hI.p60
  have h20 := hI.m20
  have h16 := hI.c16
  have h10 := hI.t10
  have h200 := hI.s200
  have hh200 := hI.h200
  have hrf := c_readRules (g := g) (d := d) (w := w) (L := L) hT hB hl hen hn
  have hok := fun h => pText_ok (t := t) (en := en) h
  generalize pText t en 0 = R at *
  obtain ⟨r, s9, rows, steps⟩ := R
  dsimp only at hok
  have bad : ¬ (f 0 ≤ day ∧ day ≤ 2000) → EX g mbOf (Ev g (d + 39)) (infoOf 132) k_X10_rules (RuC w F A f np nm nc nt ns nh v (r, s9, rows, steps) day) (RuX w F A f np nm nc nt ns nh v (r, s9, rows, steps) day) w.1 (cW w F A L) 0 0 8 [some (.ref 0), some (.int day), none] [] := by
    intro h
    refine x_al rfl rfl ?_
    refine x_getC rfl hn (by with_reducible exact sp_0) (by exact rfl) ?_
    refine x_c rfl ?_
    refine x_putC rfl hn (by with_reducible exact sp_1) (by exact rfl) (by first | rfl | exact nr_z (by assumption)) (by first | rfl | exact fi_z _) ?_
    have go : ∀ q, q ≠ 1 → udA F 1 (upd (F 1) 1 0) q = F q := fun q hq => udA_ne hq
    refine x_thr rfl hn rfl (Nat.le_of_ble_eq_true rfl) (Nat.le_of_ble_eq_true rfl) (Nat.le_of_ble_eq_true rfl) ?_
    exact ⟨_, A, L, rfl, by rw [udA_t, upd_at], ⟨go 0 (by decide), rfl, fun q hq => ⟨go q (by omega), rfl⟩⟩, hR.keep hI (fun q h1 h2 => ⟨go q (by omega), rfl⟩), hK.keepC (by rw [go 1396 (by decide)]) rfl, Or.inl ⟨h, rfl, by rw [udA_t, upd_ne (by decide)]⟩⟩
  refine ev_X10_rules ?_ (Nat.le_of_ble_eq_true rfl)
  refine x_lo (lo' := [some (.ref 0), some (.int day), none]) rfl ?_
  refine x_il rfl rfl ?_
  refine x_al rfl rfl ?_
  refine x_getC rfl hn (by with_reducible exact sp_0) (by exact rfl) ?_
  refine x_getC rfl hn (by with_reducible exact (by first | exact sp_6 | exact st_0 (by assumption))) (by exact rfl) ?_
  rw [show F 6 0 = f 0 from hR.1.1]
  refine x_iclt rfl (fun c1 => ?_) (fun c1 => ?_)
  · skip
    exact bad (fun h => absurd c1 (Int32.not_lt.mpr h.1))
  refine x_il rfl rfl ?_
  refine x_c rfl ?_
  refine x_icle rfl (fun c2 => ?_) (fun c2 => ?_)
  rotate_left
  · skip
    exact bad (fun h => c2 h.2)
  have hd : f 0 ≤ day ∧ day ≤ 2000 := ⟨Int32.not_lt.mp c1, c2⟩
  refine x_al rfl rfl ?_
  refine x_getC rfl hn (by with_reducible exact sp_0) (by exact rfl) ?_
  refine x_al rfl rfl ?_
  refine x_getC rfl hn (by with_reducible exact sp_0) (by exact rfl) ?_
  refine x_call2 (hrf) rfl (Nat.le_of_ble_eq_true rfl) (Or.inl (by first | exact hn | assumption)) (rcv_at (cw_fs (by with_reducible exact te_0 (by first | assumption | exact teA (by omega) | exact teN | exact teD | exact te_b (by assumption) | exact teB (by assumption) (by omega))) hn) (by decide) (by decide)) (Nat.le_of_ble_eq_true rfl) (Nat.le_of_ble_eq_true rfl) (fun E w9 hq => hq.elim) ?_
  rintro v9 w9 ⟨rfl, F1, A1, rfl, ⟨t1, t2, t3, t4⟩, a2, a3⟩
  refine x_is (lo' := [_, _, _]) rfl (Nat.le_of_ble_eq_true rfl) rfl ?_
  refine x_al rfl rfl ?_
  refine x_getC rfl hn (by with_reducible exact sp_0) (by exact rfl) ?_
  refine x_c rfl ?_
  refine x_putC rfl hn (by with_reducible exact sp_1) (by exact rfl) (by first | rfl | exact nr_z (by assumption)) (by first | rfl | exact fi_z _) ?_
  refine x_il rfl rfl ?_
  generalize hF3 : udA F1 1 (upd (F1 1) 1 0) = F3
  have g1 : F3 1 1 = 0 := by rw [← hF3, udA_t, upd_at]
  have g2 : F3 1 2 = F1 1 2 := by rw [← hF3, udA_t, upd_ne (by decide)]
  have go : ∀ q, q ≠ 1 → F3 q = F1 q := fun q h => by rw [← hF3, udA_ne h]
  have gF : ∀ q, q ≠ 1 → q ≠ 1414 → F3 q = F q := fun q h1 h2 => (go q h1).trans (t1 q h1 h2)
  have gA : ∀ q, q ≠ 3 → q ≠ 4 → q ≠ 5 → (q < 1415 ∨ 1419 < q) → A1 q = A q := t4
  have hR3 : RS F3 A1 f 6 np nm nc nt ns nh := hR.keep hI (fun q h1 h2 => ⟨gF q (by omega) (by omega), gA q (by omega) (by omega) (by omega) (by omega)⟩)
  have hK3 : KI F3 A1 f np nm v := hK.keepC (by rw [gF 1396 (by decide) (by decide)]) (gA 1404 (by decide) (by decide) (by decide) (by decide))
  have hfr : frY F A F3 A1 := ⟨gF 0 (by decide) (by decide), gA 2 (by decide) (by decide) (by decide) (by decide), fun q hq => ⟨gF q (by omega) (by omega), gA q (by omega) (by omega) (by omega) (by omega)⟩⟩
  have e7 : F3 6 7 = nI nt := hR3.1.2.2.2.2.2.2.2
  cases r with
  | false =>
    refine x_ifne rfl (fun c => absurd rfl c) (fun c => ?_)
    refine x_thr rfl hn rfl (Nat.le_of_ble_eq_true rfl) (Nat.le_of_ble_eq_true rfl) (Nat.le_of_ble_eq_true rfl) ?_
    exact ⟨F3, A1, L, rfl, g1, hfr, hR3, hK3, Or.inr (Or.inl ⟨hd, rfl, rfl, g2.trans (a2 rfl)⟩)⟩
  | true =>
    obtain ⟨b1, b2, b3, b4, b5⟩ := a3 rfl
    have b2 : F1 1414 1 = nI rows.length := b2
    have b3 : rows.length ≤ 12 := b3
    obtain ⟨k1, k2⟩ := hok rfl
    refine x_ifne rfl (fun c => ?_) (fun c => absurd c (show ¬ (1 : Int32) = 0 by decide))
    refine x_al rfl rfl ?_
    refine x_getC rfl hn (by with_reducible exact sp_0) (by exact rfl) ?_
    refine x_getC rfl hn (by with_reducible exact (by first | exact sp_6 | exact st_0 (by assumption))) (by exact rfl) ?_
    rw [e7]
    refine x_c rfl ?_
    refine x_icltN (y := 10) rfl (by omega) (fun c3 => ?_) (fun c3 => ?_)
    rotate_left
    · skip
      have e10 : nt = 10 := by omega
      refine x_thr rfl hn rfl (Nat.le_of_ble_eq_true rfl) (Nat.le_of_ble_eq_true rfl) (Nat.le_of_ble_eq_true rfl) ?_
      exact ⟨F3, A1, L, rfl, g1, hfr, hR3, hK3, Or.inr (Or.inr ⟨hd, rfl, e10, rfl, g2.trans b1⟩)⟩
    refine x_al rfl rfl ?_
    refine x_getC rfl hn (by with_reducible exact sp_0) (by exact rfl) ?_
    refine x_il rfl rfl ?_
    refine x_putC rfl hn (by with_reducible exact te_0 (by first | assumption | exact teA (by omega) | exact teN | exact teD | exact te_b (by assumption) | exact teB (by assumption) (by omega))) (by exact rfl) (by first | rfl | exact nr_z (by assumption)) (by first | rfl | exact fi_z _) ?_
    refine x_al rfl rfl ?_
    refine x_getC rfl hn (by with_reducible exact sp_0) (by exact rfl) ?_
    refine x_getC rfl hn (by with_reducible exact (by first | exact sp_6 | exact st_0 (by assumption))) (by exact rfl) ?_
    refine x_al rfl rfl ?_
    refine x_getC rfl hn (by with_reducible exact sp_0) (by exact rfl) ?_
    refine x_getC rfl hn (by with_reducible exact (by first | exact sp_6 | exact st_0 (by assumption))) (by exact rfl) ?_
    rw [udA_ne (show 6 ≠ 1414 by decide), e7]
    refine x_aaC rfl hn (by with_reducible exact sp_10) (by decide) (by omega) ?_
    refine x_al rfl rfl ?_
    refine x_getC rfl hn (by with_reducible exact sp_0) (by exact rfl) ?_
    generalize hF4 : udA F3 1414 (upd (F3 1414) 0 day) = F4
    have d0 : F4 1414 0 = day := by rw [← hF4, udA_t, upd_at]
    have d1 : F4 1414 1 = nI rows.length := by rw [← hF4, udA_t, upd_ne (by decide), go 1414 (by decide)]; exact b2
    have go4 : ∀ q, q ≠ 1414 → F4 q = F3 q := fun q h => by rw [← hF4, udA_ne h]
    refine x_call2 (c_copyText (q := 641 + 6 * nt) (p := 1414) (teA c3) teD (by omega) hn) rfl (Nat.le_of_ble_eq_true rfl) (Or.inl (by first | exact hn | assumption)) (rcv_at (cw_fs (by with_reducible exact te_0 (by first | assumption | exact teA (by omega) | exact teN | exact teD | exact te_b (by assumption) | exact teB (by assumption) (by omega))) hn) (by decide) (by decide)) (Nat.le_of_ble_eq_true rfl) (Nat.le_of_ble_eq_true rfl) (fun E w9 hq => hq.elim) ?_
    rintro v9 w9 ⟨rfl, F5, A5, rfl, ⟨x0, x1, x2⟩, x3, x4, x5⟩
    refine x_al rfl rfl ?_
    refine x_getC rfl hn (by with_reducible exact sp_0) (by exact rfl) ?_
    refine x_dup rfl rfl ?_
    refine x_getC rfl hn (by with_reducible exact (by first | exact sp_6 | exact st_0 (by assumption))) (by exact rfl) ?_
    have e6 : F5 6 7 = nI nt := by rw [(x5 6 (by omega)).1, go4 6 (by decide)]; exact e7
    rw [e6]
    refine x_c rfl ?_
    refine x_addN (y := 1) rfl ?_
    refine x_putC rfl hn (by with_reducible exact (by first | exact sp_6 | exact st_0 (by assumption))) (by exact rfl) (by first | rfl | exact nr_z (by assumption)) (by first | rfl | exact fi_z _) ?_
    refine x_al rfl rfl ?_
    refine x_getC rfl hn (by with_reducible exact sp_0) (by exact rfl) ?_
    refine x_getC rfl hn (by with_reducible exact te_0 (by first | assumption | exact teA (by omega) | exact teN | exact teD | exact te_b (by assumption) | exact teB (by assumption) (by omega))) (by exact rfl) ?_
    rw [udA_ne (show 1414 ≠ 6 by decide), (x5 1414 (by omega)).1, d1]
    refine x_reti rfl (Nat.le_of_ble_eq_true rfl) (Nat.le_of_ble_eq_true rfl) rfl ?_
    have hF : ∀ q, q ≠ 6 → (q < 641 + 6 * nt ∨ 641 + 6 * nt + 6 ≤ q) → q ≠ 1414 → q ≠ 1 → udA F5 6 (upd (F5 6) 7 (nI (nt + 1))) q = F q := fun q a b c e => by rw [udA_ne a, (x5 q b).1, go4 q c, gF q e c]
    have hA : ∀ q, (q < 641 + 6 * nt ∨ 641 + 6 * nt + 6 ≤ q) → q ≠ 3 → q ≠ 4 → q ≠ 5 → (q < 1415 ∨ 1419 < q) → A5 q = A q := fun q a b c e l => by rw [(x5 q a).2, gA q b c e l]
    have nt9 : nt < 10 := c3
    refine ⟨hd, rfl, by omega, rfl, _, A5, L, rfl, ⟨?_, ?_⟩, ⟨hF 0 (by omega) (by omega) (by omega) (by omega), hA 2 (by omega) (by omega) (by omega) (by omega) (by omega), fun q hq => ⟨hF q (by omega) (by omega) (by omega) (by omega), hA q (by omega) (by omega) (by omega) (by omega) (by omega)⟩⟩, fun fx hfx hrw hst => ?_⟩
    · rw [udA_ne (by decide), (x5 1 (by omega)).1, go4 1 (by decide)]; exact g1
    · rw [udA_ne (by decide), (x5 1 (by omega)).1, go4 1 (by decide), g2]; exact b1
    show RS _ _ (putT fx nt day (nI rows.length)) 6 np nm nc (nt + 1) ns nh ∧ IV (putT fx nt day (nI rows.length)) np nm nc (nt + 1) ns nh ∧ KI _ _ (putT fx nt day (nI rows.length)) np nm v
    have hTx : TxS (udA F5 6 (upd (F5 6) 7 (nI (nt + 1)))) A5 (641 + 6 * nt) (putT fx nt day (nI rows.length)) nt rows.length := by
      refine TxS_put (f := f) (en := en) nt9 b3 (by have : steps.length ≤ en := k2; omega) k1 hrw hst ?_ ?_ (fun i r hr => ?_) (fun i x hx => ?_)
      · rw [udA_ne (by omega), x0]; exact d0
      · rw [udA_ne (by omega), x1]; exact d1
      · have hi : i < rows.length := by
          rcases Nat.lt_or_ge i rows.length with h | h
          · exact h
          · rw [List.getElem?_eq_none h] at hr; cases hr
        rw [x3 1 (by omega) (by omega) i (by omega), x3 2 (by omega) (by omega) i (by omega), x3 3 (by omega) (by omega) i (by omega), x3 4 (by omega) (by omega) i (by omega)]
        exact b4 i r hr
      · have hi : i < steps.length := by
          rcases Nat.lt_or_ge i steps.length with h | h
          · exact h
          · rw [List.getElem?_eq_none h] at hx; cases hx
        have h400 : steps.length ≤ en := k2
        rw [Nat.zero_add, x4 i (by omega)]
        have := b5 i x hx
        rw [Nat.zero_add] at this
        exact this
    have fo : ∀ i, i ≠ 12825 → (i < 12826 + 850 * nt ∨ 12826 + 850 * nt + 850 ≤ i) → i < 21326 → putT fx nt day (nI rows.length) i = f i := fun i a b c => by rw [putT_o nt9 a b]; exact hfx i (by omega)
    generalize hf1 : putT fx nt day (nI rows.length) = f1 at *
    have f1c : f1 12825 = nI (nt + 1) := by rw [← hf1]; exact putT_c nt9
    have f1d : f1 (12826 + 850 * nt) = day := by rw [← hf1]; exact putT_d nt9
    clear hf1
    have hW := hI.wp
    obtain ⟨⟨r0, r1, r2, r3, r4, r5, r6, r7⟩, rP, rM, rC, rT, rN, rS, rH⟩ := hR
    obtain ⟨⟨i1, i2, i3, i4, i5, i6⟩, ⟨⟨t0, ht0, et0⟩, n2⟩, _, ⟨hp1, hp2⟩, ⟨hm1, hm2⟩, ⟨hc1, hc2⟩, ht, hs⟩ := id hI
    have kk : ∀ k, k ≠ 7 → udA F5 6 (upd (F5 6) 7 (nI (nt + 1))) 6 k = F 6 k := fun k hk => by rw [udA_t, upd_ne hk, (x5 6 (by omega)).1, go4 6 (by decide), gF 6 (by decide) (by decide)]
    refine ⟨⟨⟨?_, ?_, ?_, ?_, ?_, ?_, ?_, ?_⟩, fun p hp => ?_, fun k hk => ?_, fun c hc => ?_, fun t ht => ?_, ?_, ?_, ?_⟩, ⟨⟨?_, ?_, ?_, ⟨f1c, by omega⟩, ?_, ?_⟩, ⟨?_, ?_⟩, ⟨fun p hp => ?_, fun k hk => ?_⟩, ⟨fun p hp => CeR_c (fun i h1 h2 => fo i (by omega) (by omega) (by omega)) (hp1 p hp), fun p h1 h2 => by rw [fo _ (by omega) (by omega) (by omega)]; exact hp2 p h1 h2⟩, ⟨fun k hk => by rw [fo (5826 + 39 * k) (by omega) (by omega) (by omega), fo (5826 + 39 * k + 5) (by omega) (by omega) (by omega)]; exact hm1 k hk, fun k h1 h2 => by rw [fo _ (by omega) (by omega) (by omega)]; exact hm2 k h1 h2⟩, ⟨fun c hc => ?_, fun k c j h1 h2 h3 h4 => by rw [fo _ (by omega) (by omega) (by omega)]; exact hc2 k c j h1 h2 h3 h4⟩, fun t htn => ?_, fun r hr => ?_⟩, ?_⟩
    · rw [kk 0 (by decide), fo 0 (by omega) (by omega) (by omega)]; exact r0
    · rw [kk 1 (by decide), fo 1 (by omega) (by omega) (by omega)]; exact r1
    · rw [kk 2 (by decide), fo 2 (by omega) (by omega) (by omega)]; exact r2
    · rw [kk 3 (by decide), fo 3 (by omega) (by omega) (by omega)]; exact r3
    · rw [kk 4 (by decide)]; exact r4
    · rw [kk 5 (by decide)]; exact r5
    · rw [kk 6 (by decide)]; exact r6
    · rw [udA_t, upd_at]
    · exact ((rP p hp).keep fun r h1 h2 => ⟨hF r (by omega) (by omega) (by omega) (by omega), hA r (by omega) (by omega) (by omega) (by omega) (by omega)⟩).cong (wp_p hW (by omega)) (fun i h1 h2 => fo i (by omega) (by omega) (by omega))
    · exact ((rM k hk).keep fun r h1 h2 => ⟨hF r (by omega) (by omega) (by omega) (by omega), hA r (by omega) (by omega) (by omega) (by omega) (by omega)⟩).cong (wp_m hW (by omega)) (fun i h1 h2 => fo i (by omega) (by omega) (by omega))
    · exact ((rC c hc).keep fun r h1 h2 => ⟨hF r (by omega) (by omega) (by omega) (by omega), hA r (by omega) (by omega) (by omega) (by omega) (by omega)⟩).cong (fun i h1 h2 => fo i (by omega) (by omega) (by omega)) (fun k j hk hj => by rw [fo _ (by omega) (by omega) (by omega)])
    · by_cases e : t = nt
      · rw [e]; exact ⟨_, hTx⟩
      · obtain ⟨r, hr⟩ := rT t (by omega)
        exact ⟨r, TxS_b (fun i h1 h2 => fo i (by omega) (by omega) (by omega)) (hr.keep fun r h1 h2 => ⟨hF r (by omega) (by omega) (by omega) (by omega), hA r (by omega) (by omega) (by omega) (by omega) (by omega)⟩)⟩
    · show udA F5 6 (upd (F5 6) 7 (nI (nt + 1))) 11 1 = 0
      rw [hF 11 (by omega) (by omega) (by omega) (by omega)]; exact rN
    · exact (rS.keep (hF 17 (by omega) (by omega) (by omega) (by omega)) (hA 18 (by omega) (by omega) (by omega) (by omega) (by omega))).cong (fun i h1 h2 => fo i (by omega) (by omega) (by omega))
    · exact (rH.keep (hF 19 (by omega) (by omega) (by omega) (by omega)) (hA 20 (by omega) (by omega) (by omega) (by omega) (by omega))).cong (fun i h1 h2 => fo i (by omega) (by omega) (by omega))
    · rw [fo 4 (by omega) (by omega) (by omega)]; exact i1
    · rw [fo 5825 (by omega) (by omega) (by omega)]; exact i2
    · rw [fo 6606 (by omega) (by omega) (by omega)]; exact i3
    · rw [fo 10223 (by omega) (by omega) (by omega)]; exact i5
    · rw [fo 11424 (by omega) (by omega) (by omega)]; exact i6
    · rw [fo 0 (by omega) (by omega) (by omega)]; exact ⟨t0, ht0, et0⟩
    · rw [fo 2 (by omega) (by omega) (by omega)]; exact n2
    · rw [fo (5 + 97 * p + 64) (by omega) (by omega) (by omega)]; exact hW.1 p hp
    · rw [fo (5826 + 39 * k + 6) (by omega) (by omega) (by omega)]; exact hW.2 k hk
    · obtain ⟨a1, a2, a3, a4, a5⟩ := hc1 c hc
      refine ⟨by rw [fo _ (by omega) (by omega) (by omega)]; exact a1, by rw [fo _ (by omega) (by omega) (by omega)]; exact a2, fun t ht => by rw [fo _ (by omega) (by omega) (by omega)]; exact a3 t ht, fun j hj => by rw [fo (6607 + 26 * c + (6 + j)) (by omega) (by omega) (by omega), fo (6607 + 26 * c + (16 + j)) (by omega) (by omega) (by omega)]; exact a4 j hj, ?_⟩
      rw [cn_c (P' := fun j => decide (0 ≤ f (6607 + 26 * c + (16 + j)))) 10 (fun j hj => by rw [fo _ (by omega) (by omega) (by omega)])]
      exact a5
    · by_cases e : t = nt
      · rw [e, f1d]
        have hd0 := hd.1
        rw [et0] at hd0
        exact nI_of2 (M := 2000) (n := 2000) rfl (fun h => absurd (Int32.lt_of_le_of_lt hd0 h) (nI_pos (by omega))) hd.2 |>.imp fun v hv => hv
      · rw [fo _ (by omega) (by omega) (by omega)]; exact ht t (by omega)
    · have := hs r hr
      unfold SaI at this ⊢
      rw [fo (10224 + 6 * r) (by omega) (by omega) (by omega), fo (10224 + 6 * r + 1) (by omega) (by omega) (by omega), fo (10224 + 6 * r + 2) (by omega) (by omega) (by omega), fo (10224 + 6 * r + 3) (by omega) (by omega) (by omega), fo (10224 + 6 * r + 4) (by omega) (by omega) (by omega), fo (10224 + 6 * r + 5) (by omega) (by omega) (by omega)]
      exact this
    · exact (hK.cong (f' := f1) (np' := np) (nm' := nm) ⟨fo 1 (by omega) (by omega) (by omega), fun p hp i h1 h2 => fo i (by omega) (by omega) (by omega), fun k hk i h1 h2 => fo i (by omega) (by omega) (by omega)⟩ hW h60 h20 (Nat.le_refl _) (Nat.le_refl _)).keepC (by rw [hF 1396 (by omega) (by omega) (by omega) (by omega)]) (hA 1404 (by omega) (by omega) (by omega) (by omega) (by omega))
theorem c_image (hR : RS F A f 6 np nm nc nt ns nh) (hI : IV f np nm nc nt ns nh) (hno : F 706 1 = 0) (hn : w.1 = N0) : Ev g (d + 6) 166 [.ref 0] (cW w F A L) (fun v1 w' => v1 = none ∧ ∃ F' A', w' = cW w F' A' L ∧ RS F' A' f 701 np nm nc nt ns nh ∧ F' 0 3 = 1 ∧ ∀ q, q ≠ 0 → (q < 701 ∨ 1396 ≤ q) → F' q = F q ∧ A' q = A q) noX := by
  refine ev_X10_image ?_ (Nat.le_of_ble_eq_true rfl)
  refine x_lo (lo' := [some (.ref 0)]) rfl ?_
  refine x_al rfl rfl ?_
  refine x_getC rfl hn (by with_reducible exact sp_0) (by exact rfl) ?_
  refine x_al rfl rfl ?_
  refine x_getC rfl hn (by with_reducible exact sp_0) (by exact rfl) ?_
  have hq7 : (701 : Nat) = 6 ∨ (701 : Nat) = 701 := Or.inr rfl
  refine x_call2 (c_copyState (q := 701) (p := 6) (Or.inr ⟨rfl, rfl⟩) hR hI hno hn) rfl (Nat.le_of_ble_eq_true rfl) (Or.inl (by first | exact hn | assumption)) (rcv_at (cw_fs (by with_reducible exact (by first | exact sp_6 | exact st_0 (by assumption))) hn) (by decide) (by decide)) (Nat.le_of_ble_eq_true rfl) (Nat.le_of_ble_eq_true rfl) (fun E w9 hq => hq.elim) ?_
  rintro v9 w9 ⟨rfl, F1, A1, rfl, h1, h2⟩
  refine x_al rfl rfl ?_
  refine x_c rfl ?_
  refine x_putC rfl hn (by with_reducible exact sp_0) (by exact rfl) (by first | rfl | exact nr_z (by assumption)) (by first | rfl | exact fi_z _) ?_
  refine x_retv rfl (Nat.le_of_ble_eq_true rfl) (Nat.le_of_ble_eq_true rfl) rfl ?_
  refine ⟨rfl, _, A1, rfl, ?_, by rw [udA_t, upd_at], fun q a b => ⟨by rw [udA_ne a]; exact (h2 q (by omega)).1, (h2 q (by omega)).2⟩⟩
  have h60 := hI.p60
  have h20 := hI.m20
  have h16 := hI.c16
  have h10 := hI.t10
  obtain ⟨r0, rP, rM, rC, rT, rN, rS, rH⟩ := h1
  have go : ∀ q, q ≠ 0 → udA F1 0 (upd (F1 0) 3 1) q = F1 q := fun q h => udA_ne h
  refine ⟨by rw [go 701 (by decide)]; exact r0, fun p hp => (rP p hp).keep fun r a b => ⟨go r (by omega), rfl⟩, fun p hp => (rM p hp).keep fun r a b => ⟨go r (by omega), rfl⟩, fun p hp => (rC p hp).keep fun r a b => ⟨go r (by omega), rfl⟩, fun p hp => ?_, by rw [go _ (by decide)]; exact rN, rS.keep (go _ (by decide)) rfl, rH.keep (go _ (by decide)) rfl⟩
  obtain ⟨r, hr⟩ := rT p hp
  exact ⟨r, hr.keep fun r a b => ⟨go r (by omega), rfl⟩⟩
theorem c_back {np' nm' nc' nt' ns' nh' : Nat} {f' : Nat → Int32} (hK : KI F A f np nm v) (hv : v + 1 < 2 ^ 30) (hno : F 11 1 = 0) (hi : F 0 3 = 0 ∨ (F 0 3 = 1 ∧ RS F A f' 701 np' nm' nc' nt' ns' nh' ∧ IV f' np' nm' nc' nt' ns' nh')) (hn : w.1 = N0) : Ev g (d + 6) 167 [.ref 0] (cW w F A L) (fun v1 w' => (F 0 3 = 0 ∧ v1 = some (.int 0) ∧ w' = cW w F A L) ∨ (F 0 3 = 1 ∧ v1 = some (.int 1) ∧ ∃ F' A', w' = cW w F' A' L ∧ RS F' A' f' 6 np' nm' nc' nt' ns' nh' ∧ F' 1396 11 = nI (v + 1) ∧ ∀ q, q ≠ 1396 → (q < 6 ∨ 701 ≤ q) → F' q = F q ∧ A' q = A q)) noX := by
  refine ev_X10_back ?_ (Nat.le_of_ble_eq_true rfl)
  refine x_lo (lo' := [some (.ref 0)]) rfl ?_
  refine x_al rfl rfl ?_
  refine x_getC rfl hn (by with_reducible exact sp_0) (by exact rfl) ?_
  rcases hi with h0 | ⟨h1, hR, hI⟩
  · rw [h0]
    refine x_ifne rfl (fun c => absurd rfl c) (fun c => ?_)
    refine x_c rfl ?_
    refine x_retz rfl (Nat.le_of_ble_eq_true rfl) (Nat.le_of_ble_eq_true rfl) rfl (by first | rfl | assumption | exact bI_01 _) ?_
    exact Or.inl ⟨rfl, rfl, rfl⟩
  · rw [h1]
    refine x_ifne rfl (fun c => ?_) (fun c => absurd c (show ¬ (1 : Int32) = 0 by decide))
    refine x_al rfl rfl ?_
    refine x_getC rfl hn (by with_reducible exact sp_0) (by exact rfl) ?_
    refine x_al rfl rfl ?_
    refine x_getC rfl hn (by with_reducible exact sp_0) (by exact rfl) ?_
    refine x_call2 (c_copyState (q := 6) (p := 701) (Or.inl ⟨rfl, rfl⟩) hR hI hno hn) rfl (Nat.le_of_ble_eq_true rfl) (Or.inl (by first | exact hn | assumption)) (rcv_at (cw_fs (by with_reducible exact (by first | exact sp_6 | exact st_0 (by assumption))) hn) (by decide) (by decide)) (Nat.le_of_ble_eq_true rfl) (Nat.le_of_ble_eq_true rfl) (fun E w9 hq => hq.elim) ?_
    rintro v9 w9 ⟨rfl, F1, A1, rfl, a1, a2⟩
    refine x_al rfl rfl ?_
    refine x_getC rfl hn (by with_reducible exact sp_0) (by exact rfl) ?_
    refine x_call1 (c_forget (v := v) (by rw [(a2 1396 (by omega)).1]; exact hK.1) hn) rfl (Nat.le_of_ble_eq_true rfl) (Or.inl (by first | exact hn | assumption)) (rcv_at (cw_fs (by with_reducible exact sp_1396) hn) (by decide) (by decide)) (Nat.le_of_ble_eq_true rfl) (Nat.le_of_ble_eq_true rfl) (fun E w9 hq => hq.elim) ?_
    rintro v9 w9 ⟨rfl, rfl⟩
    refine x_c rfl ?_
    refine x_retz rfl (Nat.le_of_ble_eq_true rfl) (Nat.le_of_ble_eq_true rfl) rfl (by first | rfl | assumption | exact bI_01 _) ?_
    refine Or.inr ⟨rfl, rfl, _, A1, rfl, a1.keep hI (fun q b1 b2 => ⟨udA_ne (by omega), rfl⟩), by rw [udA_t, upd_at], fun q b1 b2 => ⟨by rw [udA_ne b1]; exact (a2 q (by omega)).1, (a2 q (by omega)).2⟩⟩
end CALLS
