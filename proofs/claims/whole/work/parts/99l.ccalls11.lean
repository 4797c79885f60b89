/-! readings of the class; cw_ -/
section K
variable {F A F' A' : Nat → Nat → Int32} {f f' : Nat → Int32} {np nm nc nt ns nh v : Nat}
theorem patF_8 {tu : Nat → Int32} : ∃ k, k < 8 ∧ patF tu = nI k := by
  unfold patF
  repeat' split
  all_goals first | exact ⟨0, by decide, rfl⟩ | exact ⟨1, by decide, rfl⟩ | exact ⟨2, by decide, rfl⟩ | exact ⟨3, by decide, rfl⟩ | exact ⟨4, by decide, rfl⟩ | exact ⟨5, by decide, rfl⟩
theorem clsF_8 {p : Nat} : ∃ k, k < 8 ∧ clsF f p = nI k := by
  unfold clsF
  repeat' split
  all_goals first | exact patF_8 | exact ⟨6, by decide, rfl⟩ | exact ⟨7, by decide, rfl⟩ | exact ⟨2, by decide, rfl⟩ | exact ⟨3, by decide, rfl⟩ | exact ⟨4, by decide, rfl⟩ | exact ⟨5, by decide, rfl⟩
/-- only fingers with a second class are chosen -/
def SB (f : Nat → Int32) (c b : Nat) : Prop := ∀ j, j < 10 → bt (nI b) j = true → 0 ≤ f (6607 + 26 * c + (16 + j))
theorem SB_0 {c : Nat} : SB f c 0 := fun j hj h => by rw [bt_nI (by omega), Nat.zero_testBit] at h; cases h
def dg (f : Nat → Int32) (c b j : Nat) : Nat := cN (clC f c j (nI b))
theorem owC_8 {c b j : Nat} (hI : IV f np nm nc nt ns nh) (hc : c < nc) (hj : j < 10) (hb : SB f c b) : ∃ k, k < 8 ∧ owC f c j (nI b) = nI k := by
  unfold owC
  by_cases h : bt (nI b) j = true
  · rw [if_pos h]
    have h1 := hb j hj h
    rcases ((hI.ca hc).2.2.2.1 j hj).2 with h2 | h2
    · rw [h2] at h1; exact absurd h1 (by decide)
    · exact h2
  · rw [if_neg h]; exact clsF_8
theorem clC_dg {c b j : Nat} (hI : IV f np nm nc nt ns nh) (hc : c < nc) (hj : j < 10) (hb : SB f c b) : clC f c j (nI b) = nI (dg f c b j) ∧ dg f c b j < 8 := by
  have : ∃ k, k < 8 ∧ clC f c j (nI b) = nI k := by
    unfold clC
    split
    · exact owC_8 hI hc hj hb
    · split
      · exact owC_8 hI hc (by omega) hb
      · exact ⟨7, by decide, rfl⟩
  obtain ⟨k, hk, e⟩ := this
  unfold dg
  rw [e, show cN (nI k) = k from nI_clamp (by omega)]
  exact ⟨rfl, hk⟩
/-- the first n digits of a reading -/
def DN (f : Nat → Int32) (c b o : Nat) : Nat → Nat := acc (fun j v => 8 * v + dg f c b (o + j)) 0
theorem DN_s {c b o n : Nat} : DN f c b o (n + 1) = 8 * DN f c b o n + dg f c b (o + n) := rfl
theorem DN_lt {c b o : Nat} (hI : IV f np nm nc nt ns nh) (hc : c < nc) (hb : SB f c b) : ∀ n, o + n ≤ 10 → DN f c b o n < 8 ^ n := by
  intro n
  induction n with
  | zero => intro _; exact Nat.one_pos
  | succ n ih =>
    intro h
    have := ih (by omega)
    have h2 := (clC_dg (j := o + n) hI hc (by omega) hb).2
    rw [DN_s, Nat.pow_succ]
    omega
theorem DN_5 {c b : Nat} : DN f c b 0 10 = 32768 * DN f c b 0 5 + DN f c b 5 5 := by
  show DN f c b 0 (0 + 1 + 1 + 1 + 1 + 1 + 1 + 1 + 1 + 1 + 1) = 32768 * DN f c b 0 (0 + 1 + 1 + 1 + 1 + 1) + DN f c b 5 (0 + 1 + 1 + 1 + 1 + 1)
  simp only [DN_s]
  have e0 : DN f c b 5 0 = 0 := rfl
  have e1 : DN f c b 0 0 = 0 := rfl
  simp only [e0, e1, Nat.reduceAdd, Nat.zero_add, Nat.add_zero, Nat.mul_zero]
  omega
theorem nuC_D {c b : Nat} {lo : Bool} (hI : IV f np nm nc nt ns nh) (hc : c < nc) (hb : SB f c b) : ∀ n, n ≤ 5 → nuC f c (nI b) lo n = nI (DN f c b (if lo then 5 else 0) n) := by
  intro n
  induction n with
  | zero => intro _; rfl
  | succ n ih =>
    intro h
    show 8 * nuC f c (nI b) lo n + clC f c (if lo then n + 5 else n) (nI b) = _
    rw [ih (by omega), DN_s]
    have e : (if lo then n + 5 else n) = (if lo then 5 else 0) + n := by cases lo <;> simp <;> omega
    rw [e, (clC_dg (j := (if lo then 5 else 0) + n) hI hc (by cases lo <;> simp <;> omega) hb).1, show (8 : Int32) = nI 8 from rfl, pk_mul, nI_add]
theorem nI_dig {a k : Nat} (ha : a < 2 ^ 27) (hk : k < 8) : nI a <<< ((3 : Int32) &&& 31) ||| nI k = nI (8 * a + k) := by
  rw [show nI a <<< ((3 : Int32) &&& 31) = nI (a * 8) from pk_shlN _ 3 rfl (by omega), nI_or, show a * 8 = 2 ^ 3 * a by omega, ← Nat.two_pow_add_eq_or_of_lt (show k < 2 ^ 3 from hk)]
theorem nI_15 {a : Nat} (h : a < 2 ^ 31) : nI a >>> ((15 : Int32) &&& 31) = nI (a / 32768) := pk_shrN h _ 15 rfl
theorem nI_and15 (a : Nat) : nI a &&& 32767 = nI (a % 32768) := by
  rw [show (32767 : Int32) = nI 32767 from rfl, nI_and, show (32767 : Nat) = 2 ^ 15 - 1 from rfl, Nat.and_two_pow_sub_one_eq_mod]
end K
section CALLS
variable {g : aG} {d : Nat} {w : aW} {F A : Nat → Nat → Int32} {L : Nat → Int64} {f : Nat → Int32} {np nm nc nt ns nh v : Nat}
theorem c_readingOf {c b : Nat} (hR : RS F A f 6 np nm nc nt ns nh) (hI : IV f np nm nc nt ns nh) (hc : c < nc) (hb : SB f c b) (hn : w.1 = N0) : Ev g (d + 5) 81 [.ref 6, .int (nI c), .int (nI b)] (cW w F A L) (RetQ (nI (DN f c b 0 10)) (cW w F A L)) noX := by
  refine ev_X7_readingOf ?_ (Nat.le_of_ble_eq_true rfl)
  refine x_lo (lo' := [some (.ref 6), some (.int (nI c)), some (.int (nI b)), none, none]) rfl ?_
  refine x_c rfl ?_
  refine x_is (lo' := [_, _, _, _, _]) rfl (Nat.le_of_ble_eq_true rfl) rfl ?_
  refine x_c rfl ?_
  refine x_is (lo' := [_, _, _, _, _]) rfl (Nat.le_of_ble_eq_true rfl) rfl ?_
  have loop : ∀ j, j ≤ 10 → EX g mbOf (Ev g (d + 4)) (infoOf 81) k_X7_readingOf (RetQ (nI (DN f c b 0 10)) (cW w F A L)) noX w.1 (cW w F A L) 0 0 4 [some (.ref 6), some (.int (nI c)), some (.int (nI b)), some (.int (nI (DN f c b 0 j))), some (.int (nI j))] [] := by
    refine downN 10 fun j hj ih => ?_
    refine x_il rfl rfl ?_
    refine x_c rfl ?_
    refine x_icgeN (y := 10) rfl (by omega) (fun c0 => ?_) (fun c0 => ?_)
    · refine x_il rfl rfl ?_
      refine x_reti rfl (Nat.le_of_ble_eq_true rfl) (Nat.le_of_ble_eq_true rfl) rfl ?_
      obtain rfl : j = 10 := by omega
      exact ⟨rfl, rfl⟩
    refine x_il rfl rfl ?_
    refine x_c rfl ?_
    refine x_shl rfl ?_
    refine x_al rfl rfl ?_
    refine x_il rfl rfl ?_
    refine x_il rfl rfl ?_
    refine x_il rfl rfl ?_
    have ih := ih c0
    have h1 := clC_dg (j := j) hI hc c0 hb
    have h2 : DN f c b 0 j < 2 ^ 27 := by
      have := DN_lt (o := 0) hI hc hb j (by omega)
      have h3 : 8 ^ j ≤ 8 ^ 9 := Nat.pow_le_pow_right (by decide) (by omega)
      omega
    refine x_call4 (c_classOf hR hI hc c0 hn) rfl (Nat.le_of_ble_eq_true rfl) (Or.inl (by first | exact hn | assumption)) (rcv_at (cw_fs (by with_reducible exact (by first | exact sp_6 | exact st_0 (by assumption))) hn) (by decide) (by decide)) (Nat.le_of_ble_eq_true rfl) (Nat.le_of_ble_eq_true rfl) (fun E w9 hq => hq.elim) ?_
    rintro v9 w9 ⟨rfl, rfl⟩
    rw [h1.1]
    refine x_or rfl ?_
    rw [nI_dig h2 h1.2]
    have e : 8 * DN f c b 0 j + dg f c b j = DN f c b 0 (j + 1) := by rw [DN_s, Nat.zero_add]
    rw [e]
    refine x_is (lo' := [_, _, _, _, _]) rfl (Nat.le_of_ble_eq_true rfl) rfl ?_
    refine x_inc1 (lo' := [_, _, _, _, _]) rfl rfl rfl ?_
    refine x_go rfl ?_
    exact ih
  exact loop 0 (Nat.zero_le _)
theorem c_number {x : Int32} {lo : Bool} (hK : KI F A f np nm v) (hR : RS F A f 6 np nm nc nt ns nh) (hI : IV f np nm nc nt ns nh) (hn : w.1 = N0) : Ev g (d + 6) 127 [.ref 0, .int x, .int (bI lo)] (cW w F A L) (caQ w F A (f) v (if okN x nc = true then 0 else 1) (some (.int (if okN x nc = true then nuC f (cN x) 0 lo 5 else 0)))) (caX (cW w F A L) (if okN x nc = true then 0 else 1) 2 0) := by
  have h60 := hI.p60
  have h20 := hI.m20
  have h16 := hI.c16
  have h10 := hI.t10
  have h200 := hI.s200
  have hh200 := hI.h200
  refine ev_X10_number ?_ (Nat.le_of_ble_eq_true rfl)
  refine x_lo (lo' := [some (.ref 0), some (.int x), some (.int (bI lo)), none]) rfl ?_
  refine x_al rfl rfl ?_
  refine x_il rfl rfl ?_
  refine x_call2 (c_needCard hR.1.2.2.2.2.2.2.1 (by omega) hn) rfl (Nat.le_of_ble_eq_true rfl) (Or.inl (by first | exact hn | assumption)) (rcv_at (cw_fs (by with_reducible exact sp_0) hn) (by decide) (by decide)) (Nat.le_of_ble_eq_true rfl) (Nat.le_of_ble_eq_true rfl) (fun E w9 hq => ⟨rfl, by obtain ⟨h9, rfl, rfl⟩ := hq; exact ⟨rfl, Or.inl ⟨if_neg (fun h8 => fne h9 h8), rfl⟩⟩⟩) ?_
  rintro v9 w9 ⟨h1, rfl, rfl⟩
  refine x_al rfl rfl ?_
  refine x_getC rfl hn (by with_reducible exact sp_0) (by exact rfl) ?_
  refine x_il rfl rfl ?_
  refine x_c rfl ?_
  obtain ⟨c, hc, rfl, ec⟩ := ok_of h1 (by omega)
  rw [if_pos h1, if_pos h1, ec]
  have l1 := DN_lt (o := 0) hI hc (SB_0 (f := f) (c := c)) 10 (by omega)
  have l2 := DN_lt (o := 5) hI hc (SB_0 (f := f) (c := c)) 5 (by omega)
  have e5 := DN_5 (f := f) (c := c) (b := 0)
  have hu := nuC_D (lo := lo) hI hc (SB_0 (f := f) (c := c)) 5 (by omega)
  refine x_call3 (c_readingOf (b := 0) hR hI hc SB_0 hn) rfl (Nat.le_of_ble_eq_true rfl) (Or.inl (by first | exact hn | assumption)) (rcv_at (cw_fs (by with_reducible exact (by first | exact sp_6 | exact st_0 (by assumption))) hn) (by decide) (by decide)) (Nat.le_of_ble_eq_true rfl) (Nat.le_of_ble_eq_true rfl) (fun E w9 hq => hq.elim) ?_
  rintro v9 w9 ⟨rfl, rfl⟩
  refine x_is (lo' := [_, _, _, _]) rfl (Nat.le_of_ble_eq_true rfl) rfl ?_
  refine x_il rfl rfl ?_
  cases lo with
  | true =>
    refine x_ifeq rfl (fun e9 => absurd e9 (by decide)) (fun e9 => ?_)
    refine x_il rfl rfl ?_
    refine x_c rfl ?_
    refine x_and rfl ?_
    refine x_go rfl ?_
    refine x_reti rfl (Nat.le_of_ble_eq_true rfl) (Nat.le_of_ble_eq_true rfl) rfl ?_
    rw [nI_and15, show DN f c 0 0 10 % 32768 = DN f c 0 5 5 by omega]
    exact ca_ro hK hR hI (congrArg (fun x => some (Value.int x)) hu.symm) rfl
  | false =>
    refine x_ifeq rfl (fun e9 => ?_) (fun e9 => absurd rfl e9)
    refine x_il rfl rfl ?_
    refine x_c rfl ?_
    refine x_shr rfl ?_
    refine x_reti rfl (Nat.le_of_ble_eq_true rfl) (Nat.le_of_ble_eq_true rfl) rfl ?_
    rw [nI_15 (by omega), show DN f c 0 0 10 / 32768 = DN f c 0 0 5 by omega]
    exact ca_ro hK hR hI (congrArg (fun x => some (Value.int x)) hu.symm) rfl
end CALLS
