/-! rare; cw_ -/
theorem JL_mul {a b : Nat} : JL a * JL b = JL (a * b) := (Int64.ofNat_mul a b).symm
theorem JL_div {a b : Nat} (ha : a < 2 ^ 63) (hb : b < 2 ^ 63) : JL a / JL b = JL (a / b) := (Int64.ofNat_div ha hb).symm
theorem JL_lt {a b : Nat} (ha : a < 2 ^ 63) (hb : b < 2 ^ 63) : JL a < JL b ↔ a < b := Int64.ofNat_lt_iff_lt ha hb
theorem JL_ne0 {a : Nat} (ha : a < 2 ^ 63) (h : 0 < a) : ¬ JL a = 0 := by
  intro e
  have h2 : JL 0 < JL a := (JL_lt (by omega) ha).mpr h
  rw [e] at h2
  exact absurd h2 (by decide)
theorem remL_J {a b : Nat} (ha : a < 2 ^ 63) (hb : b < 2 ^ 63) : remL (JL a) (JL b) = JL (a % b) := by
  have h1 : JL (a / b) * JL b = JL (a / b * b) := JL_mul
  have h2 : a / b * b ≤ a := Nat.div_mul_le_self a b
  unfold remL
  rw [JL_div ha hb, h1]
  show Int64.ofNat a - Int64.ofNat (a / b * b) = Int64.ofNat (a % b)
  rw [← Int64.ofNat_sub a (a / b * b) h2]
  have h3 := Nat.div_add_mod a b
  rw [Nat.mul_comm b (a / b)] at h3
  rw [show a - a / b * b = a % b by omega]
theorem com_gcd : ∀ k x y, x < 2 ^ 63 → y < 2 ^ 63 → y < 2 ^ k → comI (2 * k) (JL x) (JL y) = some (JL (Nat.gcd x y)) := by
  intro k
  induction k with
  | zero =>
    intro x y hx hy h
    obtain rfl : y = 0 := by
      have : (2 : Nat) ^ 0 = 1 := rfl
      omega
    show (if 0 < JL 0 then none else some (JL x)) = _
    rw [if_neg (by decide), Nat.gcd_zero_right]
  | succ k ih =>
    intro x y hx hy h
    rw [show 2 * (k + 1) = 2 * k + 1 + 1 by omega]
    show (if JL 0 < JL y then comI (2 * k + 1) (JL y) (remL (JL x) (JL y)) else some (JL x)) = _
    rcases Nat.eq_zero_or_pos y with e | e
    · subst e
      rw [if_neg (by decide), Nat.gcd_zero_right]
    · rw [if_pos ((JL_lt (by omega) hy).mpr e), remL_J hx hy]
      have hr : x % y < y := Nat.mod_lt _ e
      have g1 : Nat.gcd x y = Nat.gcd (x % y) y := by rw [Nat.gcd_comm, Nat.gcd_rec]
      rw [g1]
      generalize x % y = r at *
      show (if JL 0 < JL r then comI (2 * k) (JL r) (remL (JL y) (JL r)) else some (JL y)) = _
      rcases Nat.eq_zero_or_pos r with e2 | e2
      · subst e2
        rw [if_neg (by decide), Nat.gcd_zero_left]
      · rw [if_pos ((JL_lt (by omega) (by omega)).mpr e2), remL_J hy (by omega)]
        have hm : y % r < r := Nat.mod_lt _ e2
        have h2 : (2 : Nat) ^ (k + 1) = 2 * 2 ^ k := by rw [Nat.pow_succ, Nat.mul_comm]
        have h3 : y % r ≤ y - r := by
          rw [Nat.mod_eq_sub_mod (Nat.le_of_lt hr)]
          exact Nat.mod_le _ _
        rw [ih r (y % r) (by omega) (by omega) (by omega), Nat.gcd_rec r y, Nat.gcd_comm]
theorem lcmp_leG {x y : Int64} : lg_cmp x y ≤ 0 ↔ ¬ y < x := by
  unfold lg_cmp
  constructor
  · intro h
    split at h
    · exact absurd h (by decide)
    · rename_i h1
      exact h1
  · intro h
    rw [if_neg (by exact h)]
    split <;> decide
section K
variable {f : Nat → Int32} {np nm nc nt ns nh : Nat}
theorem rar_step {c j a1 u1 a2 u2 : Nat} (h1 : rarF f nc c j = some (JL a1, JL u1)) (hneg : ¬ f (6607 + 26 * c + (6 + j)) < 0) (ha : a2 = a1 * (1 + hvN f j (clC f c j 0) nc)) (hu : u2 = u1 * (2 + alN f j nc)) (la : a2 < 2 ^ 63) (lu : u2 < 2 ^ 63) (pa : 0 < a2) : rarF f nc c (j + 1) = some (JL (a2 / Nat.gcd a2 u2), JL (u2 / Nat.gcd a2 u2)) := by
  have hp : 0 < Nat.gcd a2 u2 := Nat.gcd_pos_of_pos_left _ pa
  have hl : Nat.gcd a2 u2 ≤ a2 := Nat.gcd_le_left _ pa
  have q1 : JL a1 * Int64.ofNat (1 + hvN f j (clC f c j 0) nc) = JL a2 := by rw [ha]; exact JL_mul
  have q2 : JL u1 * Int64.ofNat (2 + alN f j nc) = JL u2 := by rw [hu]; exact JL_mul
  unfold rarF
  rw [h1]
  show rarS f nc c j (JL a1, JL u1) = _
  unfold rarS
  rw [if_neg hneg]
  generalize he : comI 200 (JL a1 * Int64.ofNat (1 + hvN f j (clC f c j 0) nc)) (JL u1 * Int64.ofNat (2 + alN f j nc)) = e
  rw [q1, q2, show (200 : Nat) = 2 * 100 from rfl, com_gcd 100 a2 u2 la lu (by omega)] at he
  subst he
  show (if JL (Nat.gcd a2 u2) = 0 then none else some (JL a1 * Int64.ofNat (1 + hvN f j (clC f c j 0) nc) / JL (Nat.gcd a2 u2), JL u1 * Int64.ofNat (2 + alN f j nc) / JL (Nat.gcd a2 u2))) = _
  rw [if_neg (JL_ne0 (by omega) hp), q1, q2, JL_div la (by omega), JL_div lu (by omega)]
theorem rar_skip {c j : Nat} {s : Int64 × Int64} (h1 : rarF f nc c j = some s) (hneg : f (6607 + 26 * c + (6 + j)) < 0) : rarF f nc c (j + 1) = some s := by
  unfold rarF
  rw [h1]
  show rarS f nc c j s = _
  unfold rarS
  rw [if_pos hneg]
theorem pw17 {j : Nat} (hj : j < 10) : 17 ^ j * 17 < 2 ^ 63 ∧ 18 ^ j * 18 < 2 ^ 63 := by
  have : ∀ i : Fin 10, 17 ^ i.1 * 17 < 2 ^ 63 ∧ 18 ^ i.1 * 18 < 2 ^ 63 := by decide
  exact this ⟨j, hj⟩
/-- how great the terms are -/
def rarB (j a u : Nat) : Prop := 0 < a ∧ a ≤ 17 ^ j ∧ 0 < u ∧ u ≤ 18 ^ j
theorem rarB_step {c j a1 u1 : Nat} (hI : IV f np nm nc nt ns nh) (h : rarB j a1 u1) (hj : j < 10) : let a2 := a1 * (1 + hvN f j (clC f c j 0) nc); let u2 := u1 * (2 + alN f j nc); a2 < 2 ^ 63 ∧ u2 < 2 ^ 63 ∧ 0 < a2 ∧ 0 < u2 ∧ rarB (j + 1) (a2 / Nat.gcd a2 u2) (u2 / Nat.gcd a2 u2) := by
  have h16 := hI.c16
  have p1 : 1 + hvN f j (clC f c j 0) nc ≤ 17 := by have := cn_le (fun c' => decide (inP f j c' ∧ clC f c' j 0 = clC f c j 0)) nc; unfold hvN; omega
  have p2 : 2 + alN f j nc ≤ 18 := by have := cn_le (fun c' => decide (inP f j c')) nc; unfold alN; omega
  have q1 : a1 * (1 + hvN f j (clC f c j 0) nc) ≤ 17 ^ j * 17 := Nat.mul_le_mul h.2.1 p1
  have q2 : u1 * (2 + alN f j nc) ≤ 18 ^ j * 18 := Nat.mul_le_mul h.2.2.2 p2
  have r1 : 0 < a1 * (1 + hvN f j (clC f c j 0) nc) := Nat.mul_pos h.1 (by omega)
  have r2 : 0 < u1 * (2 + alN f j nc) := Nat.mul_pos h.2.2.1 (by omega)
  have pw := pw17 hj
  intro a2 u2
  have q1 : a2 ≤ 17 ^ j * 17 := q1
  have q2 : u2 ≤ 18 ^ j * 18 := q2
  have r1 : 0 < a2 := r1
  have r2 : 0 < u2 := r2
  have l1 : Nat.gcd a2 u2 ≤ a2 := Nat.gcd_le_left _ r1
  have l2 : Nat.gcd a2 u2 ≤ u2 := Nat.gcd_le_right _ r2
  have hp : 0 < Nat.gcd a2 u2 := Nat.gcd_pos_of_pos_left _ r1
  refine ⟨by omega, by omega, r1, r2, Nat.div_pos l1 hp, ?_, Nat.div_pos l2 hp, ?_⟩
  · have := Nat.div_le_self a2 (Nat.gcd a2 u2)
    rw [Nat.pow_succ]
    omega
  · have := Nat.div_le_self u2 (Nat.gcd a2 u2)
    rw [Nat.pow_succ]
    omega
theorem rar_nat {c : Nat} (hI : IV f np nm nc nt ns nh) : ∀ j, j ≤ 10 → ∃ a u, rarF f nc c j = some (JL a, JL u) ∧ rarB j a u := by
  intro j
  induction j with
  | zero => intro _; exact ⟨1, 1, rfl, by decide, by decide, by decide, by decide⟩
  | succ j ih =>
    intro hj
    obtain ⟨a, u, h1, h2⟩ := ih (by omega)
    by_cases hneg : f (6607 + 26 * c + (6 + j)) < 0
    · refine ⟨a, u, rar_skip h1 hneg, h2.1, ?_, h2.2.2.1, ?_⟩
      · have := h2.2.1
        rw [Nat.pow_succ]
        omega
      · have := h2.2.2.2
        rw [Nat.pow_succ]
        omega
    · obtain ⟨l1, l2, p1, p2, hb⟩ := rarB_step (c := c) hI h2 (show j < 10 by omega)
      exact ⟨_, _, rar_step h1 hneg rfl rfl l1 l2 p1, hb⟩
end K
section CALLS
variable {g : aG} {d : Nat} {w : aW} {F A : Nat → Nat → Int32} {L : Nat → Int64} {f : Nat → Int32} {np nm nc nt ns nh v : Nat}
theorem c_commonDivisor {a b : Nat} (ha : a < 2 ^ 63) (hb : b < 2 ^ 63) : Ev g (d + 1) 162 [.long (JL a), .long (JL b)] w (fun v w' => v = some (.long (JL (Nat.gcd a b))) ∧ w' = w) noX := by
  have h0 : comI (200 - 0) (JL a) (JL b) = some (JL (Nat.gcd a b)) := com_gcd 100 a b ha hb (by omega)
  generalize JL (Nat.gcd a b) = r at *
  have loop : ∀ i, i ≤ 200 → ∀ (x y : Nat) (z : Option Value), x < 2 ^ 63 → y < 2 ^ 63 → comI (200 - i) (JL x) (JL y) = some r → EX g mbOf (Ev g (d)) (infoOf 162) k_X10_commonDivisor (fun v w' => v = some (.long r) ∧ w' = w) noX w.1 (w) 0 0 6 [some (.long (JL a)), none, some (.long (JL b)), none, some (.long (JL x)), none, some (.long (JL y)), none, some (.int (nI i)), z, none] [] := by
    refine downN 200 fun i hi ih => ?_
    intro x y z hx hy h
    refine x_il rfl rfl ?_
    refine x_c rfl ?_
    have fin : JL x = r → EX g mbOf (Ev g (d)) (infoOf 162) k_X10_commonDivisor (fun v w' => v = some (.long r) ∧ w' = w) noX w.1 (w) 0 0 23 [some (.long (JL a)), none, some (.long (JL b)), none, some (.long (JL x)), none, some (.long (JL y)), none, some (.int (nI i)), z, none] [] := by
      intro e
      refine x_ll rfl rfl ?_
      refine x_retl rfl (Nat.le_of_ble_eq_true rfl) (Nat.le_of_ble_eq_true rfl) rfl ?_
      exact ⟨by rw [e], rfl⟩
    refine x_icgeN (y := 200) rfl (by omega) (fun c0 => ?_) (fun c0 => ?_)
    · skip
      rw [show 200 - i = 0 by omega] at h
      have h : (if JL 0 < JL y then none else some (JL x)) = some r := h
      refine fin ?_
      by_cases hy0 : JL 0 < JL y
      · rw [if_pos hy0] at h; cases h
      · rw [if_neg hy0] at h; cases h; rfl
    refine x_ll rfl rfl ?_
    refine x_c rfl ?_
    refine x_lcmp rfl ?_
    have ih := ih c0
    rw [show 200 - i = (200 - (i + 1)) + 1 by omega] at h
    have h : (if JL 0 < JL y then comI (200 - (i + 1)) (JL y) (remL (JL x) (JL y)) else some (JL x)) = some r := h
    rcases Nat.eq_zero_or_pos y with e | e
    · subst e
      rw [if_neg (by decide)] at h
      have e0 : lg_cmp (JL 0) 0 = 0 := by decide
      rw [e0]
      refine x_ifeq rfl (fun e9 => ?_) (fun e9 => absurd rfl e9)
      exact fin (by cases h; rfl)
    · rw [if_pos ((JL_lt (by omega) hy).mpr e), remL_J hx hy] at h
      refine x_ifeq rfl (fun e9 => (JL_ne0 hy e (lcmp_z.mp e9)).elim) (fun e9 => ?_)
      refine x_ll rfl rfl ?_
      refine x_ll rfl rfl ?_
      refine x_lrem rfl (JL_ne0 hy e) ?_
      rw [show JL x - JL x / JL y * JL y = JL (x % y) from remL_J hx hy]
      refine x_ls (lo' := [_, _, _, _, _, _, _, _, _, _, _]) rfl (Nat.le_of_ble_eq_true rfl) rfl ?_
      refine x_ll rfl rfl ?_
      refine x_ls (lo' := [_, _, _, _, _, _, _, _, _, _, _]) rfl (Nat.le_of_ble_eq_true rfl) rfl ?_
      refine x_ll rfl rfl ?_
      refine x_ls (lo' := [_, _, _, _, _, _, _, _, _, _, _]) rfl (Nat.le_of_ble_eq_true rfl) rfl ?_
      refine x_inc1 (lo' := [_, _, _, _, _, _, _, _, _, _, _]) rfl rfl rfl ?_
      refine x_go rfl ?_
      exact ih y (x % y) _ hy (Nat.lt_of_lt_of_le (Nat.mod_lt _ e) (by omega)) h
  refine ev_X10_commonDivisor ?_ (Nat.le_of_ble_eq_true rfl)
  refine x_lo (lo' := [some (.long (JL a)), none, some (.long (JL b)), none, none, none, none, none, none, none, none]) rfl ?_
  refine x_ll rfl rfl ?_
  refine x_ls (lo' := [_, _, _, _, _, _, _, _, _, _, _]) rfl (Nat.le_of_ble_eq_true rfl) rfl ?_
  refine x_ll rfl rfl ?_
  refine x_ls (lo' := [_, _, _, _, _, _, _, _, _, _, _]) rfl (Nat.le_of_ble_eq_true rfl) rfl ?_
  refine x_c rfl ?_
  refine x_is (lo' := [_, _, _, _, _, _, _, _, _, _, _]) rfl (Nat.le_of_ble_eq_true rfl) rfl ?_
  exact loop 0 (by decide) a b none ha hb h0
theorem c_rare {x : Int32} {below : Bool} {a u : Int64} (hK : KI F A f np nm v) (hR : RS F A f 6 np nm nc nt ns nh) (hI : IV f np nm nc nt ns nh) (hr : okN x nc = true → rarF f nc (cN x) 10 = some (a, u)) (hn : w.1 = N0) : Ev g (d + 5) 161 [.ref 0, .int x, .int (bI below)] (cW w F A L) (caQ w F A (f) v (if okN x nc = true then 0 else 1) (some (.long (if okN x nc = true then (if below = true then u else a) else 0)))) (caX (cW w F A L) (if okN x nc = true then 0 else 1) 2 0) := by
  have h60 := hI.p60
  have h20 := hI.m20
  have h16 := hI.c16
  refine ev_X10_rare ?_ (Nat.le_of_ble_eq_true rfl)
  refine x_lo (lo' := [some (.ref 0), some (.int x), some (.int (bI below)), none, none, none, none, none, none, none, none]) rfl ?_
  refine x_al rfl rfl ?_
  refine x_il rfl rfl ?_
  refine x_call2 (c_needCard hR.1.2.2.2.2.2.2.1 (by omega) hn) rfl (Nat.le_of_ble_eq_true rfl) (Or.inl (by first | exact hn | assumption)) (rcv_at (cw_fs (by with_reducible exact sp_0) hn) (by decide) (by decide)) (Nat.le_of_ble_eq_true rfl) (Nat.le_of_ble_eq_true rfl) (fun E w9 hq => ⟨rfl, by obtain ⟨h9, rfl, rfl⟩ := hq; exact ⟨rfl, Or.inl ⟨if_neg (fun h8 => fne h9 h8), rfl⟩⟩⟩) ?_
  rintro v9 w9 ⟨h1, rfl, rfl⟩
  refine x_c rfl ?_
  refine x_ls (lo' := [_, _, _, _, _, _, _, _, _, _, _]) rfl (Nat.le_of_ble_eq_true rfl) rfl ?_
  refine x_c rfl ?_
  refine x_ls (lo' := [_, _, _, _, _, _, _, _, _, _, _]) rfl (Nat.le_of_ble_eq_true rfl) rfl ?_
  refine x_c rfl ?_
  refine x_is (lo' := [_, _, _, _, _, _, _, _, _, _, _]) rfl (Nat.le_of_ble_eq_true rfl) rfl ?_
  obtain ⟨c, hc, rfl, ec⟩ := ok_of h1 (by omega)
  have hr := hr h1
  rw [ec] at hr
  rw [if_pos h1, if_pos h1]
  have loop : ∀ j, j ≤ 10 → ∀ (a1 u1 : Nat) (z8 z9 : Option Value), rarF f nc c j = some (JL a1, JL u1) → rarB j a1 u1 → ∀ uc us : Nat, uc = 0 + (mbOf 171).1 → us = 0 + (mbOf 171).2 → EX g mbOf (Ev g (d + 4)) (infoOf 161) k_X10_rare (caQ w F A f v 0 (some (.long (if below = true then u else a)))) (caX (cW w F A L) 0 2 0) w.1 (cW w F A L) uc us 9 [some (.ref 0), some (.int (nI c)), some (.int (bI below)), some (.long (JL a1)), none, some (.long (JL u1)), none, some (.int (nI j)), z8, z9, none] [] := by
    refine downN 10 fun j hj ih => ?_
    rintro a1 u1 z8 z9 h1 hb _ _ rfl rfl
    refine x_il rfl rfl ?_
    refine x_c rfl ?_
    refine x_icgeN (y := 10) rfl (by omega) (fun c0 => ?_) (fun c0 => ?_)
    · refine x_il rfl rfl ?_
      obtain rfl : j = 10 := by omega
      rw [hr] at h1
      cases h1
      cases below with
      | true =>
        refine x_ifeq rfl (fun c => absurd c (show ¬ (1 : Int32) = 0 by decide)) (fun c => ?_)
        refine x_ll rfl rfl ?_
        refine x_go rfl ?_
        refine x_retl rfl (Nat.le_of_ble_eq_true rfl) (Nat.le_of_ble_eq_true rfl) rfl ?_
        exact ca_ro hK hR hI rfl rfl
      | false =>
        refine x_ifeq rfl (fun c => ?_) (fun c => absurd rfl c)
        refine x_ll rfl rfl ?_
        refine x_retl rfl (Nat.le_of_ble_eq_true rfl) (Nat.le_of_ble_eq_true rfl) rfl ?_
        exact ca_ro hK hR hI rfl rfl
    refine x_al rfl rfl ?_
    refine x_getC rfl hn (by with_reducible exact sp_0) (by exact rfl) ?_
    refine x_il rfl rfl ?_
    refine x_il rfl rfl ?_
    have ih := ih c0
    have next : ∀ (a2 u2 : Nat) (z8 z9 : Option Value), rarF f nc c (j + 1) = some (JL a2, JL u2) → rarB (j + 1) a2 u2 → ∀ uc us : Nat, uc = 0 + (mbOf 171).1 → us = 0 + (mbOf 171).2 → EX g mbOf (Ev g (d + 4)) (infoOf 161) k_X10_rare (caQ w F A f v 0 (some (.long (if below = true then u else a)))) (caX (cW w F A L) 0 2 0) w.1 (cW w F A L) uc us 59 [some (.ref 0), some (.int (nI c)), some (.int (bI below)), some (.long (JL a2)), none, some (.long (JL u2)), none, some (.int (nI j)), z8, z9, none] [] := by
      rintro a2 u2 z8 z9 h2 hb2 _ _ rfl rfl
      refine x_inc1 (lo' := [_, _, _, _, _, _, _, _, _, _, _]) rfl rfl rfl ?_
      refine x_go rfl ?_
      exact ih a2 u2 _ _ h2 hb2 _ _ rfl rfl
    refine x_call3 (c_shownClass hR hI hc c0 hn) rfl (Nat.le_of_ble_eq_true rfl) (Or.inl (by first | exact hn | assumption)) (rcv_at (cw_fs (by with_reducible exact (by first | exact sp_6 | exact st_0 (by assumption))) hn) (by decide) (by decide)) (Nat.le_of_ble_eq_true rfl) (Nat.le_of_ble_eq_true rfl) (fun E w9 hq => hq.elim) ?_
    rintro v9 w9 ⟨rfl, rfl⟩
    refine x_is (lo' := [_, _, _, _, _, _, _, _, _, _, _]) rfl (Nat.le_of_ble_eq_true rfl) rfl ?_
    refine x_il rfl rfl ?_
    refine x_c rfl ?_
    rcases Classical.em (f (6607 + 26 * c + (6 + j)) < 0) with hneg | hneg
    · have e : shC f c j = -1 := if_pos hneg
      rw [e]
      refine x_icne rfl (fun e9 => absurd rfl e9) (fun e9 => ?_)
      refine x_go rfl ?_
      refine next a1 u1 _ _ (rar_skip h1 hneg) ⟨hb.1, ?_, hb.2.2.1, ?_⟩ _ _ rfl rfl
      · have := hb.2.1
        rw [Nat.pow_succ]
        omega
      · have := hb.2.2.2
        rw [Nat.pow_succ]
        omega
    · have e1 : shC f c j = clC f c j 0 := by
        unfold clC shC owC
        rw [if_pos (Int32.not_lt.mp hneg), if_neg hneg, bt_0, if_neg (by decide)]
      obtain ⟨k, hk, ek⟩ := clsF_8 (f := f) (p := cN (f (6607 + 26 * c + (6 + j))))
      have e2 : shC f c j = nI k := by
        unfold shC
        rw [if_neg hneg, ek]
      have hcl : 0 ≤ shC f c j := by rw [e2]; exact Int32.not_lt.mp (nI_pos (by omega))
      refine x_icne rfl (fun e9 => ?_) (fun e9 => absurd (e2.symm.trans e9) (nI_m1 (by omega)))
      refine x_ll rfl rfl ?_
      refine x_c rfl ?_
      refine x_al rfl rfl ?_
      refine x_getC rfl hn (by with_reducible exact sp_0) (by exact rfl) ?_
      refine x_il rfl rfl ?_
      refine x_il rfl rfl ?_
      refine x_call3 (c_countClass hR hI c0 hcl hn) rfl (Nat.le_of_ble_eq_true rfl) (Or.inl (by first | exact hn | assumption)) (rcv_at (cw_fs (by with_reducible exact (by first | exact sp_6 | exact st_0 (by assumption))) hn) (by decide) (by decide)) (Nat.le_of_ble_eq_true rfl) (Nat.le_of_ble_eq_true rfl) (fun E w9 hq => hq.elim) ?_
      rintro v9 w9 ⟨rfl, rfl⟩
      refine x_addN (x := 1) rfl ?_
      refine x_i2l rfl ?_
      refine x_lmul rfl ?_
      obtain ⟨l1, l2, p1, p2, hb2⟩ := rarB_step (c := c) hI hb c0
      have m1 := cn_le (fun c' => decide (inP f j c' ∧ clC f c' j 0 = clC f c j 0)) nc
      have m2 := cn_le (fun c' => decide (inP f j c')) nc
      have m1 : hvN f j (clC f c j 0) nc ≤ nc := m1
      have m2 : alN f j nc ≤ nc := m2
      have hst := rar_step h1 hneg rfl rfl l1 l2 p1
      rw [e1, nI_L (by omega), JL_mul]
      refine x_ls (lo' := [_, _, _, _, _, _, _, _, _, _, _]) rfl (Nat.le_of_ble_eq_true rfl) rfl ?_
      refine x_ll rfl rfl ?_
      refine x_c rfl ?_
      refine x_al rfl rfl ?_
      refine x_getC rfl hn (by with_reducible exact sp_0) (by exact rfl) ?_
      refine x_il rfl rfl ?_
      refine x_call2 (c_countPrints hR hI c0 hn) rfl (Nat.le_of_ble_eq_true rfl) (Or.inl (by first | exact hn | assumption)) (rcv_at (cw_fs (by with_reducible exact (by first | exact sp_6 | exact st_0 (by assumption))) hn) (by decide) (by decide)) (Nat.le_of_ble_eq_true rfl) (Nat.le_of_ble_eq_true rfl) (fun E w9 hq => hq.elim) ?_
      rintro v9 w9 ⟨rfl, rfl⟩
      refine x_addN (x := 2) rfl ?_
      refine x_i2l rfl ?_
      refine x_lmul rfl ?_
      rw [nI_L (by omega), JL_mul]
      generalize a1 * (1 + hvN f j (clC f c j 0) nc) = a2 at *
      generalize u1 * (2 + alN f j nc) = u2 at *
      refine x_ls (lo' := [_, _, _, _, _, _, _, _, _, _, _]) rfl (Nat.le_of_ble_eq_true rfl) rfl ?_
      refine x_ll rfl rfl ?_
      refine x_ll rfl rfl ?_
      refine x_call2 (c_commonDivisor l1 l2) rfl (Nat.le_of_ble_eq_true rfl) (Or.inl (by first | exact hn | assumption)) trivial (Nat.le_of_ble_eq_true rfl) (Nat.le_of_ble_eq_true rfl) (fun E w9 hq => hq.elim) ?_
      rintro v9 w9 ⟨rfl, rfl⟩
      refine x_ls (lo' := [_, _, _, _, _, _, _, _, _, _, _]) rfl (Nat.le_of_ble_eq_true rfl) rfl ?_
      refine x_ll rfl rfl ?_
      refine x_c rfl ?_
      refine x_lcmp rfl ?_
      have g1 : Nat.gcd a2 u2 ≤ a2 := Nat.gcd_le_left _ p1
      have g2 : 0 < Nat.gcd a2 u2 := Nat.gcd_pos_of_pos_left _ p1
      have gl : Nat.gcd a2 u2 < 2 ^ 63 := by omega
      rcases Nat.lt_or_ge 1 (Nat.gcd a2 u2) with hg | hg
      · refine x_ifle rfl (fun e9 => (lcmp_leG.mp e9 ((JL_lt (a := 1) (by omega) gl).mpr hg)).elim) (fun e9 => ?_)
        refine x_ll rfl rfl ?_
        refine x_ll rfl rfl ?_
        refine x_ldiv rfl (JL_ne0 gl g2) ?_
        refine x_ls (lo' := [_, _, _, _, _, _, _, _, _, _, _]) rfl (Nat.le_of_ble_eq_true rfl) rfl ?_
        refine x_ll rfl rfl ?_
        refine x_ll rfl rfl ?_
        refine x_ldiv rfl (JL_ne0 gl g2) ?_
        refine x_ls (lo' := [_, _, _, _, _, _, _, _, _, _, _]) rfl (Nat.le_of_ble_eq_true rfl) rfl ?_
        rw [JL_div l1 gl, JL_div l2 gl]
        exact next _ _ _ _ hst hb2 _ _ rfl rfl
      · refine x_ifle rfl (fun e9 => ?_) (fun e9 => absurd (lcmp_leG.mpr (fun h => absurd ((JL_lt (a := 1) (by omega) gl).mp h) (by omega))) e9)
        rw [show Nat.gcd a2 u2 = 1 by omega, Nat.div_one, Nat.div_one] at hst hb2
        exact next _ _ _ _ hst hb2 _ _ rfl rfl
  exact loop 0 (by decide) 1 1 none none rfl ⟨by decide, by decide, by decide, by decide⟩ _ _ rfl rfl
end CALLS
