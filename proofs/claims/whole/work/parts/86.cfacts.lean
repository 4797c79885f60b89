/-! facts of the class; cw_ -/
theorem lc_ge {x y : Int64} : 0 ≤ lg_cmp x y ↔ ¬ x < y := (lg_cmp_ge x y).trans Int64.not_lt.symm
theorem lc_le {x y : Int64} : lg_cmp x y ≤ 0 ↔ ¬ y < x := (lg_cmp_le x y).trans Int64.not_lt.symm
theorem L_lt {x y : Int32} : x.toInt64 < y.toInt64 ↔ x < y := by
  rw [Int64.lt_iff_toInt_lt, Int32.lt_iff_toInt_lt, Int32.toInt_toInt64, Int32.toInt_toInt64]
theorem L_sub {a b : Nat} (ha : a < 2 ^ 31) (hb : b < 2 ^ 31) : (nI a - nI b).toInt64 = (nI a).toInt64 - (nI b).toInt64 := by
  apply Int64.toInt_inj.mp
  have e1 : (nI a).toInt = a := Int32.toInt_ofNat_of_lt ha
  have e2 : (nI b).toInt = b := Int32.toInt_ofNat_of_lt hb
  rw [Int32.toInt_toInt64, Int64.toInt_sub, Int32.toInt_toInt64, Int32.toInt_toInt64, Int32.toInt_sub, e1, e2]
  rw [Int.bmod_eq_of_le (by omega) (by omega), Int.bmod_eq_of_le (by omega) (by omega)]
/-- a tag set or taken away -/
def setTg (x : Int32) (k : Nat) (b : Bool) : Int32 := if b = true then x ||| (1 <<< (nI k &&& 31)) else x &&& ((1 <<< (nI k &&& 31)) ^^^ -1)
theorem bt_setTg {x : Int32} {k j : Nat} {b : Bool} (hk : k < 32) (hj : j < 32) : bt (setTg x k b) j = if j = k then b else bt x j := by
  have h1 := bt_1 hk hj
  cases b with
  | true =>
    rw [show setTg x k true = x ||| (1 <<< (nI k &&& 31)) from rfl, bt_or, h1]
    by_cases e : j = k
    · rw [if_pos e, decide_eq_true e.symm, Bool.or_true]
    · rw [if_neg e, decide_eq_false (fun h => e h.symm), Bool.or_false]
  | false =>
    rw [show setTg x k false = x &&& ((1 <<< (nI k &&& 31)) ^^^ -1) from rfl]
    have h2 : bt (x &&& ((1 <<< (nI k &&& 31)) ^^^ -1)) j = (bt x j && (bt (1 <<< (nI k &&& 31)) j ^^ true)) := by
      unfold bt
      show (x.toBitVec &&& ((1 <<< (nI k &&& 31) : Int32).toBitVec ^^^ (-1 : Int32).toBitVec)).getLsbD j = _
      rw [BitVec.getLsbD_and, BitVec.getLsbD_xor, show (-1 : Int32).toBitVec = BitVec.allOnes 32 from rfl, BitVec.getLsbD_allOnes, decide_eq_true hj]
    rw [h2, h1]
    by_cases e : j = k
    · rw [if_pos e, decide_eq_true e.symm]
      simp
    · rw [if_neg e, decide_eq_false (fun h => e h.symm)]
      simp
section CALLS
variable {g : aG} {d : Nat} {w : aW} {F A : Nat → Nat → Int32} {L : Nat → Int64} {f : Nat → Int32}
def ofL (L : Nat → Int64) (a b c e : Int32) : Nat → Int64 := vp_updL (vp_updL (vp_updL (vp_updL (vp_updL L 0 a.toInt64) 1 b.toInt64) 2 c.toInt64) 3 e.toInt64) 4 0
theorem c_ofLay {a b : Int32} (hn : w.1 = N0) : Ev g (d + 1) 9 [.ref 1405, .ref 1396, .int a, .int b] (cW w F A L) (VoidQ (cW w (udA F 1405 (upd (F 1405) 1 0)) A (ofL L (F 1396 0) (F 1396 1) a b))) noX := by
  refine ev_X1_ofLay ?_ (Nat.le_of_ble_eq_true rfl)
  refine x_lo (lo' := [some (.ref 1405), some (.ref 1396), some (.int a), some (.int b)]) rfl ?_
  refine x_al rfl rfl ?_
  refine x_getC rfl hn (by with_reducible exact sp_1405) (by exact rfl) ?_
  refine x_c rfl ?_
  refine x_al rfl rfl ?_
  refine x_getC rfl hn (by with_reducible exact sp_1396) (by exact rfl) ?_
  refine x_i2l rfl ?_
  refine x_lasC (j := 0) rfl hn (by omega) ?_
  refine x_al rfl rfl ?_
  refine x_getC rfl hn (by with_reducible exact sp_1405) (by exact rfl) ?_
  refine x_c rfl ?_
  refine x_al rfl rfl ?_
  refine x_getC rfl hn (by with_reducible exact sp_1396) (by exact rfl) ?_
  refine x_i2l rfl ?_
  refine x_lasC (j := 1) rfl hn (by omega) ?_
  refine x_al rfl rfl ?_
  refine x_getC rfl hn (by with_reducible exact sp_1405) (by exact rfl) ?_
  refine x_c rfl ?_
  refine x_il rfl rfl ?_
  refine x_i2l rfl ?_
  refine x_lasC (j := 2) rfl hn (by omega) ?_
  refine x_al rfl rfl ?_
  refine x_getC rfl hn (by with_reducible exact sp_1405) (by exact rfl) ?_
  refine x_c rfl ?_
  refine x_il rfl rfl ?_
  refine x_i2l rfl ?_
  refine x_lasC (j := 3) rfl hn (by omega) ?_
  refine x_al rfl rfl ?_
  refine x_getC rfl hn (by with_reducible exact sp_1405) (by exact rfl) ?_
  refine x_c rfl ?_
  refine x_c rfl ?_
  refine x_lasC (j := 4) rfl hn (by omega) ?_
  refine x_al rfl rfl ?_
  refine x_c rfl ?_
  refine x_putC rfl hn (by with_reducible exact sp_1405) (by exact rfl) (by first | rfl | exact nr_z (by assumption)) rfl ?_
  refine x_retv rfl (Nat.le_of_ble_eq_true rfl) (Nat.le_of_ble_eq_true rfl) rfl ?_
  exact ⟨rfl, rfl⟩
theorem c_setAge {x : Int64} (hn : w.1 = N0) : Ev g (d + 1) 11 [.ref 1405, .long x] (cW w F A L) (VoidQ (cW w F A (vp_updL L 4 x))) noX := by
  refine ev_X1_setAge ?_ (Nat.le_of_ble_eq_true rfl)
  refine x_lo (lo' := [some (.ref 1405), some (.long x), none]) rfl ?_
  refine x_al rfl rfl ?_
  refine x_getC rfl hn (by with_reducible exact sp_1405) (by exact rfl) ?_
  refine x_c rfl ?_
  refine x_ll rfl rfl ?_
  refine x_lasC (j := 4) rfl hn (by omega) ?_
  refine x_retv rfl (Nat.le_of_ble_eq_true rfl) (Nat.le_of_ble_eq_true rfl) rfl ?_
  exact ⟨rfl, rfl⟩
theorem c_setTag {k : Nat} {b : Bool} (hn : w.1 = N0) : Ev g (d + 1) 12 [.ref 1405, .int (nI k), .int (bI b)] (cW w F A L) (VoidQ (cW w (udA F 1405 (upd (F 1405) 1 (setTg (F 1405 1) k b))) A L)) noX := by
  refine ev_X1_setTag ?_ (Nat.le_of_ble_eq_true rfl)
  refine x_lo (lo' := [some (.ref 1405), some (.int (nI k)), some (.int (bI b))]) rfl ?_
  refine x_al rfl rfl ?_
  refine x_il rfl rfl ?_
  cases b with
  | true =>
    refine x_ifeq rfl (fun c => absurd c (show ¬ (1 : Int32) = 0 by decide)) (fun c => ?_)
    refine x_al rfl rfl ?_
    refine x_getC rfl hn (by with_reducible exact sp_1405) (by exact rfl) ?_
    refine x_c rfl ?_
    refine x_il rfl rfl ?_
    refine x_shl rfl ?_
    refine x_or rfl ?_
    refine x_go rfl ?_
    refine x_putC rfl hn (by with_reducible exact sp_1405) (by exact rfl) (by first | rfl | exact nr_z (by assumption)) rfl ?_
    refine x_retv rfl (Nat.le_of_ble_eq_true rfl) (Nat.le_of_ble_eq_true rfl) rfl ?_
    exact ⟨rfl, rfl⟩
  | false =>
    refine x_ifeq rfl (fun c => ?_) (fun c => absurd rfl c)
    refine x_al rfl rfl ?_
    refine x_getC rfl hn (by with_reducible exact sp_1405) (by exact rfl) ?_
    refine x_c rfl ?_
    refine x_il rfl rfl ?_
    refine x_shl rfl ?_
    refine x_c rfl ?_
    refine x_xor rfl ?_
    refine x_and rfl ?_
    refine x_putC rfl hn (by with_reducible exact sp_1405) (by exact rfl) (by first | rfl | exact nr_z (by assumption)) rfl ?_
    refine x_retv rfl (Nat.le_of_ble_eq_true rfl) (Nat.le_of_ble_eq_true rfl) rfl ?_
    exact ⟨rfl, rfl⟩
theorem c_wasToldOn {q k : Nat} {day : Int32} (hq : CaAt q) (hk : k < 3) (hn : w.1 = N0) : Ev g (d + 1) 6 [.ref q, .int (nI k), .int day] (cW w F A L) (RetQ (bI (decide (¬ A (q + 4) k = -1 ∧ A (q + 4) k ≤ day))) (cW w F A L)) noX := by
  refine ev_X0_wasToldOn ?_ (Nat.le_of_ble_eq_true rfl)
  refine x_lo (lo' := [some (.ref q), some (.int (nI k)), some (.int day)]) rfl ?_
  refine x_al rfl rfl ?_
  refine x_getC rfl hn (by with_reducible exact ca_0 (by first | assumption | exact caA (by omega) | exact caB (by assumption) (by omega))) (by exact rfl) ?_
  refine x_il rfl rfl ?_
  refine x_iaC rfl hn (by with_reducible exact ca_4 (by first | assumption | exact caA (by omega) | exact caB (by assumption) (by omega))) (by omega) ?_
  refine x_c rfl ?_
  refine x_iceq rfl (fun c1 => ?_) (fun c1 => ?_)
  · refine x_c rfl ?_
    refine x_retz rfl (Nat.le_of_ble_eq_true rfl) (Nat.le_of_ble_eq_true rfl) rfl (by first | rfl | assumption) ?_
    exact ret_f (fun h => h.1 c1)
  refine x_al rfl rfl ?_
  refine x_getC rfl hn (by with_reducible exact ca_0 (by first | assumption | exact caA (by omega) | exact caB (by assumption) (by omega))) (by exact rfl) ?_
  refine x_il rfl rfl ?_
  refine x_iaC rfl hn (by with_reducible exact ca_4 (by first | assumption | exact caA (by omega) | exact caB (by assumption) (by omega))) (by omega) ?_
  refine x_il rfl rfl ?_
  refine x_icgt rfl (fun c2 => ?_) (fun c2 => ?_)
  · refine x_c rfl ?_
    refine x_retz rfl (Nat.le_of_ble_eq_true rfl) (Nat.le_of_ble_eq_true rfl) rfl (by first | rfl | assumption) ?_
    exact ret_f (fun h => absurd h.2 (Int32.not_le.mpr c2))
  refine x_c rfl ?_
  refine x_go rfl ?_
  refine x_retz rfl (Nat.le_of_ble_eq_true rfl) (Nat.le_of_ble_eq_true rfl) rfl (by first | rfl | assumption) ?_
  exact ret_t ⟨c1, Int32.not_lt.mp c2⟩
/-- the tags of the card at q -/
def tgA (A : Nat → Nat → Int32) (q : Nat) (day : Int32) : Nat → Bool := fun k => match k with
  | 0 => false
  | k + 1 => decide (¬ A (q + 4) k = -1 ∧ A (q + 4) k ≤ day)
def zrL (L : Nat → Int64) : Nat → Nat → Int64 := acc (fun k h => vp_updL h k 0) L
theorem zrL_at {L : Nat → Int64} {n k : Nat} (h : k < n) : zrL L n k = 0 := by
  induction n with
  | zero => omega
  | succ n ih =>
    show vp_updL (zrL L n) n 0 k = 0
    unfold vp_updL
    by_cases e : k = n
    · rw [if_pos e]
    · rw [if_neg e]; exact ih (by omega)
theorem c_ofCard {q : Nat} {day : Int32} (hq : CaAt q) (hn : w.1 = N0) : Ev g (d + 2) 10 [.ref 1405, .ref q, .int day] (cW w F A L) (fun v w' => v = none ∧ ∃ h, w' = cW w (udA F 1405 h) A (vp_updL (zrL L 5) 4 (day.toInt64 - (F q 1).toInt64)) ∧ ∀ k, k < 4 → bt (h 1) k = tgA A q day k) noX := by
  have hne : q ≠ 1405 := fun e => by
    have h1 := ca_0 hq
    rw [e, sp_1405] at h1
    cases h1
  have loop2 : ∀ k, k ≤ 3 → ∀ h, (∀ j, j < 4 → bt (h 1) j = (decide (j ≤ k) && tgA A q day j)) → EX g mbOf (Ev g (d + 1)) (infoOf 10) k_X1_ofCard (fun v w' => v = none ∧ ∃ h, w' = cW w (udA F 1405 h) A (vp_updL (zrL L 5) 4 (day.toInt64 - (F q 1).toInt64)) ∧ ∀ k, k < 4 → bt (h 1) k = tgA A q day k) noX w.1 (cW w (udA F 1405 h) A (vp_updL (zrL L 5) 4 (day.toInt64 - (F q 1).toInt64))) 0 0 29 [some (.ref 1405), some (.ref q), some (.int day), some (.int (nI k))] [] := by
    refine downN 3 fun k hk ih => ?_
    intro h hb
    refine x_il rfl rfl ?_
    refine x_c rfl ?_
    refine x_icgeN (y := 3) rfl (by omega) (fun c => ?_) (fun c => ?_)
    · refine x_retv rfl (Nat.le_of_ble_eq_true rfl) (Nat.le_of_ble_eq_true rfl) rfl ?_
      obtain rfl : k = 3 := by omega
      exact ⟨rfl, h, rfl, fun j hj => by rw [hb j hj, decide_eq_true (by omega), Bool.true_and]⟩
    refine x_al rfl rfl ?_
    refine x_c rfl ?_
    refine x_il rfl rfl ?_
    refine x_addN (x := 1) rfl ?_
    refine x_al rfl rfl ?_
    refine x_il rfl rfl ?_
    refine x_il rfl rfl ?_
    refine x_call3 (c_wasToldOn hq c hn) rfl (Nat.le_of_ble_eq_true rfl) (Or.inl (by first | exact hn | assumption)) (rcv_at (cw_fs (by with_reducible exact ca_0 (by first | assumption | exact caA (by omega) | exact caB (by assumption) (by omega))) hn) (by decide) (by decide)) (Nat.le_of_ble_eq_true rfl) (Nat.le_of_ble_eq_true rfl) (fun E w9 hq => hq.elim) ?_
    rintro v9 w9 ⟨rfl, rfl⟩
    refine x_call3 (c_setTag hn) rfl (Nat.le_of_ble_eq_true rfl) (Or.inl (by first | exact hn | assumption)) (rcv_at (cw_fs (by with_reducible exact sp_1405) hn) (by decide) (by decide)) (Nat.le_of_ble_eq_true rfl) (Nat.le_of_ble_eq_true rfl) (fun E w9 hq => hq.elim) ?_
    rintro v9 w9 ⟨rfl, rfl⟩
    refine x_inc1 (lo' := [_, _, _, _]) rfl rfl rfl ?_
    refine x_go rfl ?_
    rw [udA_udA, udA_t]
    refine ih c _ fun j hj => ?_
    rw [upd_at, bt_setTg (by omega) (by omega), hb j hj]
    by_cases e : j = k + 1
    · subst e
      rw [if_pos (Nat.add_comm _ _), decide_eq_true (Nat.le_refl _), Bool.true_and]
      rfl
    · rw [if_neg (by omega)]
      by_cases h3 : j ≤ k
      · rw [decide_eq_true h3, decide_eq_true (by omega)]
      · rw [decide_eq_false h3, decide_eq_false (by omega)]
  have loop1 : ∀ k, k ≤ 5 → EX g mbOf (Ev g (d + 1)) (infoOf 10) k_X1_ofCard (fun v w' => v = none ∧ ∃ h, w' = cW w (udA F 1405 h) A (vp_updL (zrL L 5) 4 (day.toInt64 - (F q 1).toInt64)) ∧ ∀ k, k < 4 → bt (h 1) k = tgA A q day k) noX w.1 (cW w F A (zrL L k)) 0 0 2 [some (.ref 1405), some (.ref q), some (.int day), some (.int (nI k))] [] := by
    refine downN 5 fun k hk ih => ?_
    refine x_il rfl rfl ?_
    refine x_al rfl rfl ?_
    refine x_getC rfl hn (by with_reducible exact sp_1405) (by exact rfl) ?_
    refine x_len rfl (cw_la (q := 1406) (n := 5) rfl hn) (by decide) ?_
    refine x_icgeN rfl (by omega) (fun c => ?_) (fun c => ?_)
    · refine x_al rfl rfl ?_
      refine x_getC rfl hn (by with_reducible exact sp_1405) (by exact rfl) ?_
      refine x_c rfl ?_
      refine x_il rfl rfl ?_
      refine x_i2l rfl ?_
      refine x_al rfl rfl ?_
      refine x_getC rfl hn (by with_reducible exact ca_0 (by first | assumption | exact caA (by omega) | exact caB (by assumption) (by omega))) (by exact rfl) ?_
      refine x_i2l rfl ?_
      refine x_lsub rfl ?_
      refine x_lasC (j := 4) rfl hn (by omega) ?_
      refine x_al rfl rfl ?_
      refine x_c rfl ?_
      refine x_putC rfl hn (by with_reducible exact sp_1405) (by exact rfl) (by first | rfl | exact nr_z (by assumption)) rfl ?_
      refine x_c rfl ?_
      refine x_is (lo' := [_, _, _, _]) rfl (Nat.le_of_ble_eq_true rfl) rfl ?_
      obtain rfl : k = 5 := by omega
      refine loop2 0 (by decide) _ fun j hj => ?_
      rw [upd_at, bt_0]
      by_cases e : j = 0
      · subst e; rfl
      · rw [decide_eq_false (by omega)]; rfl
    refine x_al rfl rfl ?_
    refine x_getC rfl hn (by with_reducible exact sp_1405) (by exact rfl) ?_
    refine x_il rfl rfl ?_
    refine x_c rfl ?_
    refine x_lasC rfl hn (by omega) ?_
    refine x_inc1 (lo' := [_, _, _, _]) rfl rfl rfl ?_
    refine x_go rfl ?_
    exact ih c
  refine ev_X1_ofCard ?_ (Nat.le_of_ble_eq_true rfl)
  refine x_lo (lo' := [some (.ref 1405), some (.ref q), some (.int day), none]) rfl ?_
  refine x_c rfl ?_
  refine x_is (lo' := [_, _, _, _]) rfl (Nat.le_of_ble_eq_true rfl) rfl ?_
  exact loop1 0 (by decide)
theorem bI_bt {x : Int32} {j : Nat} (h : j < 32) : (x >>> (nI j &&& 31)) &&& 1 = bI (bt x j) := bt_shr h
theorem c_isTag {c : Nat} {v : Int32} (hc : c < 32) (hn : w.1 = N0) : Ev g (d + 1) 13 [.ref 1405, .int 0, .int (nI c), .int v] (cW w F A L) (RetQ (bI (bt (F 1405 1) c)) (cW w F A L)) noX := by
  refine ev_X1_isTrue ?_ (Nat.le_of_ble_eq_true rfl)
  refine x_lo (lo' := [some (.ref 1405), some (.int 0), some (.int (nI c)), some (.int v), none, none]) rfl ?_
  refine x_il rfl rfl ?_
  refine x_ifne rfl (fun e => absurd rfl e) (fun e => ?_)
  refine x_al rfl rfl ?_
  refine x_getC rfl hn (by with_reducible exact sp_1405) (by exact rfl) ?_
  refine x_il rfl rfl ?_
  refine x_shr rfl ?_
  refine x_c rfl ?_
  refine x_and rfl ?_
  refine x_c rfl ?_
  rw [bt_shr hc]
  cases hb : bt (F 1405 1) c with
  | true =>
    refine x_icne rfl (fun e => absurd rfl e) (fun e => ?_)
    refine x_c rfl ?_
    refine x_go rfl ?_
    refine x_retz rfl (Nat.le_of_ble_eq_true rfl) (Nat.le_of_ble_eq_true rfl) rfl (by first | rfl | assumption) ?_
    exact ⟨rfl, rfl⟩
  | false =>
    refine x_icne rfl (fun e => ?_) (fun e => absurd (show (0 : Int32) = 1 from e) (by decide))
    refine x_c rfl ?_
    refine x_retz rfl (Nat.le_of_ble_eq_true rfl) (Nat.le_of_ble_eq_true rfl) rfl (by first | rfl | assumption) ?_
    exact ⟨rfl, rfl⟩
theorem c_isLess {c : Nat} {v : Int32} (hc : c < 5) (hn : w.1 = N0) : Ev g (d + 1) 13 [.ref 1405, .int 1, .int (nI c), .int v] (cW w F A L) (RetQ (bI (decide (L c < v.toInt64))) (cW w F A L)) noX := by
  refine ev_X1_isTrue ?_ (Nat.le_of_ble_eq_true rfl)
  refine x_lo (lo' := [some (.ref 1405), some (.int 1), some (.int (nI c)), some (.int v), none, none]) rfl ?_
  refine x_il rfl rfl ?_
  refine x_ifne rfl (fun e => ?_) (fun e => absurd e (by decide))
  refine x_il rfl rfl ?_
  refine x_iflt rfl (fun e => absurd e (nI_pos (by omega))) (fun e => ?_)
  refine x_il rfl rfl ?_
  refine x_al rfl rfl ?_
  refine x_getC rfl hn (by with_reducible exact sp_1405) (by exact rfl) ?_
  refine x_len rfl (cw_la (q := 1406) (n := 5) rfl hn) (by decide) ?_
  refine x_icge rfl (fun e => absurd ((nI_leI (a := 5) (by omega) (by omega)).mp e) (by omega)) (fun e => ?_)
  refine x_al rfl rfl ?_
  refine x_getC rfl hn (by with_reducible exact sp_1405) (by exact rfl) ?_
  refine x_il rfl rfl ?_
  refine x_laC rfl hn (by omega) ?_
  refine x_go rfl ?_
  refine x_ls (lo' := [_, _, _, _, _, _]) rfl (Nat.le_of_ble_eq_true rfl) rfl ?_
  refine x_il rfl rfl ?_
  refine x_c rfl ?_
  refine x_icne rfl (fun e => absurd rfl e) (fun e => ?_)
  refine x_ll rfl rfl ?_
  refine x_il rfl rfl ?_
  refine x_i2l rfl ?_
  refine x_lcmp rfl ?_
  refine x_ifge rfl (fun e => ?_) (fun e => ?_)
  · refine x_c rfl ?_
    refine x_go rfl ?_
    refine x_retz rfl (Nat.le_of_ble_eq_true rfl) (Nat.le_of_ble_eq_true rfl) rfl (by first | rfl | assumption) ?_
    exact ret_f (lc_ge.mp e)
  refine x_c rfl ?_
  refine x_go rfl ?_
  refine x_retz rfl (Nat.le_of_ble_eq_true rfl) (Nat.le_of_ble_eq_true rfl) rfl (by first | rfl | assumption) ?_
  exact ret_t (Classical.byContradiction fun h => e (lc_ge.mpr h))
theorem c_isMore {c : Nat} {v : Int32} (hc : c < 5) (hn : w.1 = N0) : Ev g (d + 1) 13 [.ref 1405, .int 2, .int (nI c), .int v] (cW w F A L) (RetQ (bI (decide (v.toInt64 < L c))) (cW w F A L)) noX := by
  refine ev_X1_isTrue ?_ (Nat.le_of_ble_eq_true rfl)
  refine x_lo (lo' := [some (.ref 1405), some (.int 2), some (.int (nI c)), some (.int v), none, none]) rfl ?_
  refine x_il rfl rfl ?_
  refine x_ifne rfl (fun e => ?_) (fun e => absurd e (by decide))
  refine x_il rfl rfl ?_
  refine x_iflt rfl (fun e => absurd e (nI_pos (by omega))) (fun e => ?_)
  refine x_il rfl rfl ?_
  refine x_al rfl rfl ?_
  refine x_getC rfl hn (by with_reducible exact sp_1405) (by exact rfl) ?_
  refine x_len rfl (cw_la (q := 1406) (n := 5) rfl hn) (by decide) ?_
  refine x_icge rfl (fun e => absurd ((nI_leI (a := 5) (by omega) (by omega)).mp e) (by omega)) (fun e => ?_)
  refine x_al rfl rfl ?_
  refine x_getC rfl hn (by with_reducible exact sp_1405) (by exact rfl) ?_
  refine x_il rfl rfl ?_
  refine x_laC rfl hn (by omega) ?_
  refine x_go rfl ?_
  refine x_ls (lo' := [_, _, _, _, _, _]) rfl (Nat.le_of_ble_eq_true rfl) rfl ?_
  refine x_il rfl rfl ?_
  refine x_c rfl ?_
  refine x_icne rfl (fun e => ?_) (fun e => absurd e (by decide))
  refine x_ll rfl rfl ?_
  refine x_il rfl rfl ?_
  refine x_i2l rfl ?_
  refine x_lcmp rfl ?_
  refine x_ifle rfl (fun e => ?_) (fun e => ?_)
  · refine x_c rfl ?_
    refine x_retz rfl (Nat.le_of_ble_eq_true rfl) (Nat.le_of_ble_eq_true rfl) rfl (by first | rfl | assumption) ?_
    exact ret_f (lc_le.mp e)
  refine x_c rfl ?_
  refine x_go rfl ?_
  refine x_retz rfl (Nat.le_of_ble_eq_true rfl) (Nat.le_of_ble_eq_true rfl) rfl (by first | rfl | assumption) ?_
  exact ret_t (Classical.byContradiction fun h => e (lc_le.mpr h))
end CALLS
