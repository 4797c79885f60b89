/-! the tape of the class: bytes; cw_ -/
/-- a byte as the reference holds it -/
def sbY (b : Nat) : Int32 := if b < 128 then nI b else nI (b + 4294967040)
theorem sbY_lo {b : Nat} (h : b < 128) : sbY b = nI b := if_pos h
theorem sbY_neg {b : Nat} (h : 128 ≤ b) (h2 : b < 256) : sbY b < 0 := by
  have : ∀ k : Fin 128, sbY (128 + k.1) < 0 := by decide
  have h3 := this ⟨b - 128, by omega⟩
  rw [show 128 + (⟨b - 128, by omega⟩ : Fin 128).1 = b by show 128 + (b - 128) = b; omega] at h3
  exact h3
theorem sbY_rng {x y b : Nat} (hx : x < 128) (hy : y < 128) (hb : b < 256) : (nI x ≤ sbY b ∧ sbY b ≤ nI y) ↔ (x ≤ b ∧ b ≤ y) := by
  rcases Nat.lt_or_ge b 128 with h | h
  · rw [sbY_lo h, nI_leI (by omega) (by omega), nI_leI (by omega) (by omega)]
  · have h2 := sbY_neg h hb
    constructor
    · intro h3
      exact (Int32.lt_irrefl (Int32.lt_of_le_of_lt (Int32.le_trans (nI_pos' (by omega)) h3.1) h2)).elim
    · intro h3; omega
theorem sbY_eq {x b : Nat} (hx : x < 128) (hb : b < 256) : sbY b = nI x ↔ b = x := by
  rcases Nat.lt_or_ge b 128 with h | h
  · rw [sbY_lo h, nI_eq (by omega) (by omega)]
  · have h2 := sbY_neg h hb
    constructor
    · intro h3
      rw [h3] at h2
      exact absurd h2 (nI_pos (by omega))
    · intro h3; omega
/-- a byte's number -/
def byN (y : Int32) : Nat := y.toBitVec.toNat % 256
theorem byN_lt (y : Int32) : byN y < 256 := Nat.mod_lt _ (by decide)
theorem byN_c (y : Int32) : y &&& 255 = nI (byN y) := by
  apply Int32.toBitVec_inj.mp
  rw [Int32.toBitVec_and]
  apply BitVec.eq_of_toNat_eq
  rw [BitVec.toNat_and]
  show y.toBitVec.toNat &&& 255 = (y.toBitVec.toNat % 256) % 2 ^ 32
  rw [show (255 : Nat) = 2 ^ 8 - 1 from rfl, Nat.and_two_pow_sub_one_eq_mod]
  omega
theorem i8_of (y : Int32) : y.toInt8 = Int8.ofNat (byN y) := by
  apply Int8.toBitVec_inj.mp
  apply BitVec.eq_of_toNat_eq
  show (y.toBitVec.signExtend 8).toNat = (byN y) % 2 ^ 8
  rw [BitVec.signExtend_eq_setWidth_of_le _ (by decide), BitVec.toNat_setWidth]
  unfold byN
  omega
theorem byN_r (y : Int32) : vp_nar .byte (y.toInt8.toInt32) = sbY (byN y) := by
  rw [vp_nar_byte, Int8.toInt8_toInt32, i8_of]
  have : ∀ k : Fin 256, (Int8.ofNat k.1).toInt32 = sbY k.1 := by decide +kernel
  exact this ⟨byN y, byN_lt y⟩
/-- the same text on both tapes -/
def TpR (t c : Nat → Int32) (en : Nat) (b : Nat → Nat) : Prop := ∀ i, i < en → b i < 256 ∧ c i = nI (b i) ∧ t i = sbY (b i)
def Ap4 (t : Nat → Int32) (n : Nat) (x : Int32) : Nat → Int32 := upd (upd (upd (upd t n (x >>> ((24 : Int32) &&& 31) &&& 255)) (n + 1) (x >>> ((16 : Int32) &&& 31) &&& 255)) (n + 2) (x >>> ((8 : Int32) &&& 31) &&& 255)) (n + 3) (x >>> ((0 : Int32) &&& 31) &&& 255)
theorem Ap4_in {t : Nat → Int32} {n k : Nat} {x : Int32} (hk : k < 4) : Ap4 t n x (n + k) = x >>> (nI (24 - 8 * k) &&& 31) &&& 255 := by
  unfold Ap4
  obtain rfl | rfl | rfl | rfl : k = 0 ∨ k = 1 ∨ k = 2 ∨ k = 3 := by omega
  · rw [upd_ne (by omega), upd_ne (by omega), upd_ne (by omega)]
    exact upd_at
  · rw [upd_ne (by omega), upd_ne (by omega)]
    exact upd_at
  · rw [upd_ne (by omega)]
    exact upd_at
  · exact upd_at
theorem Ap4_out {t : Nat → Int32} {n i : Nat} {x : Int32} (h : i < n ∨ n + 4 ≤ i) : Ap4 t n x i = t i := by
  unfold Ap4
  rw [upd_ne (by omega), upd_ne (by omega), upd_ne (by omega), upd_ne (by omega)]
def fedC (t : Nat → Int32) (n : Nat) (a b c e h : Int32) : Nat → Int32 := Ap4 (Ap4 (Ap4 (Ap4 (Ap4 t n a) (n + 4) b) (n + 8) c) (n + 12) e) (n + 16) h
theorem fedC_out {t : Nat → Int32} {n i : Nat} {a b c e h : Int32} (hi : i < n) : fedC t n a b c e h i = t i := by
  unfold fedC
  rw [Ap4_out (by omega), Ap4_out (by omega), Ap4_out (by omega), Ap4_out (by omega), Ap4_out (by omega)]
theorem fedC_in {t o : Nat → Int32} {n q r : Nat} {a b c e h : Int32} (hq : q < 5) (hr : r < 4) : fedC t n a b c e h (n + (4 * q + r)) = fv5 o a b c e h q >>> (nI (24 - 8 * r) &&& 31) &&& 255 := by
  unfold fedC
  obtain rfl | rfl | rfl | rfl | rfl : q = 0 ∨ q = 1 ∨ q = 2 ∨ q = 3 ∨ q = 4 := by omega
  · rw [Ap4_out (by omega), Ap4_out (by omega), Ap4_out (by omega), Ap4_out (by omega), show n + (4 * 0 + r) = n + r by omega, Ap4_in hr]
    rfl
  · rw [Ap4_out (by omega), Ap4_out (by omega), Ap4_out (by omega), show n + (4 * 1 + r) = n + 4 + r by omega, Ap4_in hr]
    rfl
  · rw [Ap4_out (by omega), Ap4_out (by omega), show n + (4 * 2 + r) = n + 8 + r by omega, Ap4_in hr]
    rfl
  · rw [Ap4_out (by omega), show n + (4 * 3 + r) = n + 12 + r by omega, Ap4_in hr]
    rfl
  · rw [show n + (4 * 4 + r) = n + 16 + r by omega, Ap4_in hr]
    rfl
theorem fedF_at {t fv : Nat → Int32} {en : Nat} : ∀ n i, fedF t en fv n i = if en ≤ i ∧ i < en + n then byF fv (i - en) else t i := by
  intro n
  induction n with
  | zero => intro i; rw [if_neg (by omega)]; rfl
  | succ n ih =>
    intro i
    show upd (fedF t en fv n) (en + n) (byF fv n) i = _
    by_cases h : i = en + n
    · subst h
      rw [upd_at, if_pos (by omega), show en + n - en = n by omega]
    · rw [upd_ne h, ih]
      by_cases h2 : en ≤ i ∧ i < en + n
      · rw [if_pos h2, if_pos (by omega)]
      · rw [if_neg h2, if_neg (by omega)]
theorem TpR.feed {t c : Nat → Int32} {en : Nat} {b : Nat → Nat} {o : Nat → Int32} {v1 v2 v3 v4 v5 : Int32} (h : TpR t c en b) : ∃ b', TpR (fedF t en (fv5 o v1 v2 v3 v4 v5) 20) (fedC c en v1 v2 v3 v4 v5) (en + 20) b' := by
  refine ⟨fun i => if i < en then b i else byN (fv5 o v1 v2 v3 v4 v5 ((i - en) / 4) >>> (nI (24 - 8 * ((i - en) % 4)) &&& 31)), fun i hi => ?_⟩
  by_cases h1 : i < en
  · have h2 := h i h1
    simp only [if_pos h1]
    rw [fedC_out h1, fedF_at, if_neg (by omega)]
    exact h2
  · simp only [if_neg h1]
    refine ⟨byN_lt _, ?_, ?_⟩
    · have e : i = en + (4 * ((i - en) / 4) + (i - en) % 4) := by omega
      have := fedC_in (t := c) (o := o) (n := en) (q := (i - en) / 4) (r := (i - en) % 4) (a := v1) (b := v2) (c := v3) (e := v4) (h := v5) (by omega) (by omega)
      rw [← e] at this
      rw [this, byN_c]
    · rw [fedF_at, if_pos (by omega)]
      unfold byF
      rw [byN_r]
theorem TpR.end {t c : Nat → Int32} {en n : Nat} {b : Nat → Nat} (h : TpR t c en b) (hn : n ≤ en) : TpR t c n b := fun i hi => h i (by omega)
section CALLS
variable {g : aG} {d : Nat} {w : aW} {F A : Nat → Nat → Int32} {L : Nat → Int64}
theorem c_hasRoom {n : Nat} (h : F 1 1 = nI n) (h4 : n ≤ 400) (hn : w.1 = N0) : Ev g (d + 1) 93 [.ref 1] (cW w F A L) (RetQ (bI (decide (n + 20 ≤ 400))) (cW w F A L)) noX := by
  refine ev_X9_hasRoom ?_ (Nat.le_of_ble_eq_true rfl)
  refine x_lo (lo' := [some (.ref 1)]) rfl ?_
  refine x_al rfl rfl ?_
  refine x_getC rfl hn (by with_reducible exact sp_1) (by exact rfl) ?_
  rw [h]
  refine x_c rfl ?_
  refine x_addN (y := 20) rfl ?_
  refine x_al rfl rfl ?_
  refine x_getC rfl hn (by with_reducible exact sp_1) (by exact rfl) ?_
  refine x_lenC rfl hn (by with_reducible exact sp_2) ?_
  refine x_icgtN rfl (by omega) (fun c => ?_) (fun c => ?_)
  · refine x_c rfl ?_
    refine x_retz rfl (Nat.le_of_ble_eq_true rfl) (Nat.le_of_ble_eq_true rfl) rfl (by first | rfl | assumption | exact bI_01 _) ?_
    exact ret_f (by omega)
  refine x_c rfl ?_
  refine x_go rfl ?_
  refine x_retz rfl (Nat.le_of_ble_eq_true rfl) (Nat.le_of_ble_eq_true rfl) rfl (by first | rfl | assumption | exact bI_01 _) ?_
  exact ret_t (by omega)
theorem c_append {n : Nat} {x : Int32} (h : F 1 1 = nI n) (h4 : n + 4 ≤ 400) (hn : w.1 = N0) : Ev g (d + 1) 94 [.ref 1, .int x] (cW w F A L) (VoidQ (cW w (udA F 1 (upd (F 1) 1 (nI (n + 4)))) (udA A 2 (Ap4 (A 2) n x)) L)) noX := by
  have step : ∀ (s : Int32) (n1 : Nat) (F1 A1 : Nat → Nat → Int32), ¬ s < 0 → n1 < 400 → F1 1 1 = nI n1 → ∀ Qr : Option Value → aW → Prop, (EX g mbOf (Ev g (d)) (infoOf 94) k_X9_append (Qr) noX w.1 (cW w (udA F1 1 (upd (F1 1) 1 (nI (n1 + 1)))) (udA A1 2 (upd (A1 2) n1 (x >>> (s &&& 31) &&& 255))) L) 0 0 2 [some (.ref 1), some (.int x), some (.int (s + (-8)))] []) → EX g mbOf (Ev g (d)) (infoOf 94) k_X9_append (Qr) noX w.1 (cW w F1 A1 L) 0 0 2 [some (.ref 1), some (.int x), some (.int s)] [] := by
    intro s n1 F1 A1 hs h1 h2 Qr k
    refine x_il rfl rfl ?_
    refine x_iflt rfl (fun c => absurd c hs) (fun c => ?_)
    refine x_al rfl rfl ?_
    refine x_getC rfl hn (by with_reducible exact sp_1) (by exact rfl) ?_
    refine x_al rfl rfl ?_
    refine x_getC rfl hn (by with_reducible exact sp_1) (by exact rfl) ?_
    refine x_lenC rfl hn (by with_reducible exact sp_2) ?_
    rw [h2]
    refine x_icgeN rfl (by omega) (fun c => by omega) (fun c => ?_)
    refine x_al rfl rfl ?_
    refine x_getC rfl hn (by with_reducible exact sp_1) (by exact rfl) ?_
    refine x_al rfl rfl ?_
    refine x_getC rfl hn (by with_reducible exact sp_1) (by exact rfl) ?_
    rw [h2]
    refine x_il rfl rfl ?_
    refine x_il rfl rfl ?_
    refine x_shr rfl ?_
    refine x_c rfl ?_
    refine x_and rfl ?_
    refine x_iasC rfl hn (by with_reducible exact sp_2) (by omega) ?_
    refine x_al rfl rfl ?_
    refine x_dup rfl rfl ?_
    refine x_getC rfl hn (by with_reducible exact sp_1) (by exact rfl) ?_
    rw [h2]
    refine x_c rfl ?_
    refine x_addN (y := 1) rfl ?_
    refine x_putC rfl hn (by with_reducible exact sp_1) (by exact rfl) (by first | rfl | exact nr_z (by assumption)) (by first | rfl | exact fi_z _) ?_
    refine x_inc (lo' := [_, _, _]) rfl rfl rfl ?_
    refine x_go rfl ?_
    exact k
  have fin : ∀ (F1 A1 : Nat → Nat → Int32), F1 = udA F 1 (upd (F 1) 1 (nI (n + 4))) → A1 = udA A 2 (Ap4 (A 2) n x) → EX g mbOf (Ev g (d)) (infoOf 94) k_X9_append (VoidQ (cW w (udA F 1 (upd (F 1) 1 (nI (n + 4)))) (udA A 2 (Ap4 (A 2) n x)) L)) noX w.1 (cW w F1 A1 L) 0 0 2 [some (.ref 1), some (.int x), some (.int (0 + (-8)))] [] := by
    rintro _ _ rfl rfl
    refine x_il rfl rfl ?_
    refine x_iflt rfl (fun c => ?_) (fun c => absurd (show (0 + (-8) : Int32) < 0 by decide) c)
    refine x_retv rfl (Nat.le_of_ble_eq_true rfl) (Nat.le_of_ble_eq_true rfl) rfl ?_
    exact ⟨rfl, rfl⟩
  refine ev_X9_append ?_ (Nat.le_of_ble_eq_true rfl)
  refine x_lo (lo' := [some (.ref 1), some (.int x), none]) rfl ?_
  refine x_c rfl ?_
  refine x_is (lo' := [_, _, _]) rfl (Nat.le_of_ble_eq_true rfl) rfl ?_
  refine step 24 n F A (by decide) (by omega) h _ ?_
  rw [show (24 : Int32) + (-8) = 16 by decide]
  refine step 16 (n + 1) _ _ (by decide) (by omega) rfl _ ?_
  simp only [udA_t, udA_udA, upd_upd]
  rw [show (16 : Int32) + (-8) = 8 by decide]
  refine step 8 (n + 1 + 1) _ _ (by decide) (by omega) rfl _ ?_
  simp only [udA_t, udA_udA, upd_upd]
  rw [show (8 : Int32) + (-8) = 0 by decide]
  refine step 0 (n + 1 + 1 + 1) _ _ (by decide) (by omega) rfl _ ?_
  simp only [udA_t, udA_udA, upd_upd]
  exact fin _ _ rfl rfl
theorem c_feed {n : Nat} {a b c e h : Int32} (h1 : F 1 1 = nI n) (h4 : n ≤ 400) (hn : w.1 = N0) : Ev g (d + 2) 109 [.ref 0, .int a, .int b, .int c, .int e, .int h] (cW w F A L) (fun v w' => (400 < n + 20 ∧ v = some (.int (-1)) ∧ w' = cW w F A L) ∨ (n + 20 ≤ 400 ∧ v = some (.int (nI (n + 20))) ∧ w' = cW w (udA F 1 (upd (F 1) 1 (nI (n + 20)))) (udA A 2 (fedC (A 2) n a b c e h)) L)) noX := by
  refine ev_X10_feed ?_ (Nat.le_of_ble_eq_true rfl)
  refine x_lo (lo' := [some (.ref 0), some (.int a), some (.int b), some (.int c), some (.int e), some (.int h)]) rfl ?_
  refine x_al rfl rfl ?_
  refine x_getC rfl hn (by with_reducible exact sp_0) (by exact rfl) ?_
  refine x_call1 (c_hasRoom h1 h4 hn) rfl (Nat.le_of_ble_eq_true rfl) (Or.inl (by first | exact hn | assumption)) (rcv_at (cw_fs (by with_reducible exact sp_1) hn) (by decide) (by decide)) (Nat.le_of_ble_eq_true rfl) (Nat.le_of_ble_eq_true rfl) (fun E w9 hq => hq.elim) ?_
  rintro v9 w9 ⟨rfl, rfl⟩
  refine x_ifneB rfl (fun c0 => ?_) (fun c0 => ?_)
  · refine x_al rfl rfl ?_
    refine x_getC rfl hn (by with_reducible exact sp_0) (by exact rfl) ?_
    refine x_il rfl rfl ?_
    have hle : n + 20 ≤ 400 := c0
    refine x_call2 (c_append h1 (by omega) hn) rfl (Nat.le_of_ble_eq_true rfl) (Or.inl (by first | exact hn | assumption)) (rcv_at (cw_fs (by with_reducible exact sp_1) hn) (by decide) (by decide)) (Nat.le_of_ble_eq_true rfl) (Nat.le_of_ble_eq_true rfl) (fun E w9 hq => hq.elim) ?_
    rintro v9 w9 ⟨rfl, rfl⟩
    refine x_al rfl rfl ?_
    refine x_getC rfl hn (by with_reducible exact sp_0) (by exact rfl) ?_
    refine x_il rfl rfl ?_
    refine x_call2 (c_append (n := n + 4) rfl (by omega) hn) rfl (Nat.le_of_ble_eq_true rfl) (Or.inl (by first | exact hn | assumption)) (rcv_at (cw_fs (by with_reducible exact sp_1) hn) (by decide) (by decide)) (Nat.le_of_ble_eq_true rfl) (Nat.le_of_ble_eq_true rfl) (fun E w9 hq => hq.elim) ?_
    rintro v9 w9 ⟨rfl, rfl⟩
    refine x_al rfl rfl ?_
    refine x_getC rfl hn (by with_reducible exact sp_0) (by exact rfl) ?_
    refine x_il rfl rfl ?_
    simp only [udA_t, udA_udA, upd_upd]
    refine x_call2 (c_append (n := n + 4 + 4) rfl (by omega) hn) rfl (Nat.le_of_ble_eq_true rfl) (Or.inl (by first | exact hn | assumption)) (rcv_at (cw_fs (by with_reducible exact sp_1) hn) (by decide) (by decide)) (Nat.le_of_ble_eq_true rfl) (Nat.le_of_ble_eq_true rfl) (fun E w9 hq => hq.elim) ?_
    rintro v9 w9 ⟨rfl, rfl⟩
    refine x_al rfl rfl ?_
    refine x_getC rfl hn (by with_reducible exact sp_0) (by exact rfl) ?_
    refine x_il rfl rfl ?_
    simp only [udA_t, udA_udA, upd_upd]
    refine x_call2 (c_append (n := n + 4 + 4 + 4) rfl (by omega) hn) rfl (Nat.le_of_ble_eq_true rfl) (Or.inl (by first | exact hn | assumption)) (rcv_at (cw_fs (by with_reducible exact sp_1) hn) (by decide) (by decide)) (Nat.le_of_ble_eq_true rfl) (Nat.le_of_ble_eq_true rfl) (fun E w9 hq => hq.elim) ?_
    rintro v9 w9 ⟨rfl, rfl⟩
    refine x_al rfl rfl ?_
    refine x_getC rfl hn (by with_reducible exact sp_0) (by exact rfl) ?_
    refine x_il rfl rfl ?_
    simp only [udA_t, udA_udA, upd_upd]
    refine x_call2 (c_append (n := n + 4 + 4 + 4 + 4) rfl (by omega) hn) rfl (Nat.le_of_ble_eq_true rfl) (Or.inl (by first | exact hn | assumption)) (rcv_at (cw_fs (by with_reducible exact sp_1) hn) (by decide) (by decide)) (Nat.le_of_ble_eq_true rfl) (Nat.le_of_ble_eq_true rfl) (fun E w9 hq => hq.elim) ?_
    rintro v9 w9 ⟨rfl, rfl⟩
    refine x_al rfl rfl ?_
    refine x_getC rfl hn (by with_reducible exact sp_0) (by exact rfl) ?_
    refine x_getC rfl hn (by with_reducible exact sp_1) (by exact rfl) ?_
    refine x_reti rfl (Nat.le_of_ble_eq_true rfl) (Nat.le_of_ble_eq_true rfl) rfl ?_
    simp only [udA_t, udA_udA, upd_upd]
    exact Or.inr ⟨hle, rfl, rfl⟩
  refine x_c rfl ?_
  refine x_reti rfl (Nat.le_of_ble_eq_true rfl) (Nat.le_of_ble_eq_true rfl) rfl ?_
  exact Or.inl ⟨by omega, rfl, rfl⟩
theorem c_end {n : Int32} (hn : w.1 = N0) : Ev g (d + 1) 110 [.ref 0, .int n] (cW w F A L) (fun v w' => v = some (.int (bI (decide (0 ≤ n ∧ n ≤ F 1 1)))) ∧ w' = cW w (if 0 ≤ n ∧ n ≤ F 1 1 then udA F 1 (upd (F 1) 1 n) else F) A L) noX := by
  refine ev_X10_end ?_ (Nat.le_of_ble_eq_true rfl)
  refine x_lo (lo' := [some (.ref 0), some (.int n)]) rfl ?_
  refine x_il rfl rfl ?_
  have no : ¬ (0 ≤ n ∧ n ≤ F 1 1) → EX g mbOf (Ev g (d)) (infoOf 110) k_X10_end (fun v w' => v = some (.int (bI (decide (0 ≤ n ∧ n ≤ F 1 1)))) ∧ w' = cW w (if 0 ≤ n ∧ n ≤ F 1 1 then udA F 1 (upd (F 1) 1 n) else F) A L) noX w.1 (cW w F A L) 0 0 7 [some (.ref 0), some (.int n)] [] := by
    intro h
    refine x_c rfl ?_
    refine x_retz rfl (Nat.le_of_ble_eq_true rfl) (Nat.le_of_ble_eq_true rfl) rfl (by first | rfl | assumption | exact bI_01 _) ?_
    exact ⟨by rw [bI_f h], by rw [if_neg h]⟩
  refine x_iflt rfl (fun c1 => ?_) (fun c1 => ?_)
  · skip
    exact no (fun h => absurd c1 (Int32.not_lt.mpr h.1))
  refine x_il rfl rfl ?_
  refine x_al rfl rfl ?_
  refine x_getC rfl hn (by with_reducible exact sp_0) (by exact rfl) ?_
  refine x_getC rfl hn (by with_reducible exact sp_1) (by exact rfl) ?_
  refine x_icle rfl (fun c2 => ?_) (fun c2 => ?_)
  · refine x_al rfl rfl ?_
    refine x_getC rfl hn (by with_reducible exact sp_0) (by exact rfl) ?_
    refine x_il rfl rfl ?_
    refine x_putC rfl hn (by with_reducible exact sp_1) (by exact rfl) (by first | rfl | exact nr_z (by assumption)) (by first | rfl | exact fi_z _) ?_
    refine x_c rfl ?_
    refine x_retz rfl (Nat.le_of_ble_eq_true rfl) (Nat.le_of_ble_eq_true rfl) rfl (by first | rfl | assumption | exact bI_01 _) ?_
    have h : 0 ≤ n ∧ n ≤ F 1 1 := ⟨Int32.not_lt.mp c1, c2⟩
    exact ⟨by rw [bI_t h], by rw [if_pos h]⟩
  exact no (fun h => c2 h.2)
theorem c_fault (hn : w.1 = N0) : Ev g (d + 1) 111 [.ref 0] (cW w F A L) (RetQ (F 1 2) (cW w F A L)) noX := by
  refine ev_X10_fault ?_ (Nat.le_of_ble_eq_true rfl)
  refine x_lo (lo' := [some (.ref 0)]) rfl ?_
  refine x_al rfl rfl ?_
  refine x_getC rfl hn (by with_reducible exact sp_0) (by exact rfl) ?_
  refine x_getC rfl hn (by with_reducible exact sp_1) (by exact rfl) ?_
  refine x_reti rfl (Nat.le_of_ble_eq_true rfl) (Nat.le_of_ble_eq_true rfl) rfl ?_
  exact ⟨rfl, rfl⟩
end CALLS
