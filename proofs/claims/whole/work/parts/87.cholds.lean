/-! texts of the class: whether a rule holds; cw_ -/
def bN (b : Bool) : Nat := if b = true then 1 else 0
/-- the stack as a row of bits below a first one -/
def encS : List Bool → Nat
  | [] => 1
  | x :: r => 2 * encS r + bN x
theorem bN_le (b : Bool) : bN b ≤ 1 := by cases b <;> decide
theorem encS_lt : ∀ l : List Bool, encS l < 2 ^ (l.length + 1)
  | [] => by decide
  | x :: r => by
    have h := encS_lt r
    have hb := bN_le x
    show 2 * encS r + bN x < 2 ^ (r.length + 1 + 1)
    rw [Nat.pow_succ]
    omega
theorem bN_nI (b : Bool) : nI (bN b) = bI b := by cases b <;> rfl
theorem tb_0' (E : Nat) (x : Bool) : (2 * E + bN x).testBit 0 = x := by
  rw [Nat.testBit_zero]
  cases x <;> simp [bN] <;> omega
theorem tb_s (E : Nat) (x : Bool) (j : Nat) : (2 * E + bN x).testBit (j + 1) = E.testBit j := by
  rw [Nat.testBit_succ]
  have := bN_le x
  rw [show (2 * E + bN x) / 2 = E by omega]
theorem tb_b0 (x : Bool) : (bN x).testBit 0 = x := by cases x <;> rfl
theorem tb_bs (x : Bool) (j : Nat) : (bN x).testBit (j + 1) = false := by
  rw [Nat.testBit_succ]
  have := bN_le x
  rw [show bN x / 2 = 0 by omega, Nat.zero_testBit]
theorem or_bit (E : Nat) (x b : Bool) : (2 * E + bN x) ||| bN b = 2 * E + bN (x || b) := by
  apply Nat.eq_of_testBit_eq
  intro j
  rw [Nat.testBit_or]
  cases j with
  | zero => rw [tb_0', tb_0', tb_b0]
  | succ j => rw [tb_s, tb_s, tb_bs, Bool.or_false]
theorem xor_bit (E : Nat) (x : Bool) : (2 * E + bN x) ^^^ 1 = 2 * E + bN (!x) := by
  apply Nat.eq_of_testBit_eq
  intro j
  rw [show (1 : Nat) = bN true from rfl, Nat.testBit_xor]
  cases j with
  | zero => rw [tb_0', tb_0', tb_b0, Bool.xor_true]
  | succ j => rw [tb_s, tb_s, tb_bs, Bool.xor_false]
theorem and_m2 {m : Nat} (h : m < 2 ^ 31) : m &&& 4294967294 = 2 * (m / 2) := by
  apply Nat.eq_of_testBit_eq
  intro j
  rw [Nat.testBit_and]
  cases j with
  | zero =>
    rw [show (2 * (m / 2)).testBit 0 = false by rw [Nat.testBit_zero]; simp, show Nat.testBit 4294967294 0 = false by decide, Bool.and_false]
  | succ j =>
    rw [Nat.testBit_succ, Nat.testBit_succ, Nat.testBit_succ, show 4294967294 / 2 = 2 ^ 31 - 1 by decide, Nat.testBit_two_pow_sub_one, show 2 * (m / 2) / 2 = m / 2 by omega]
    by_cases hj : j < 31
    · rw [decide_eq_true hj, Bool.and_true]
    · rw [decide_eq_false hj, Bool.and_false]
      exact (Nat.testBit_lt_two_pow (Nat.lt_of_lt_of_le (by omega : m / 2 < 2 ^ 31) (Nat.pow_le_pow_right (by decide) (by omega)))).symm
theorem nI_xor (a b : Nat) : nI a ^^^ nI b = nI (a ^^^ b) := by
  apply Int32.toBitVec_inj.mp
  show BitVec.ofNat 32 a ^^^ BitVec.ofNat 32 b = BitVec.ofNat 32 (a ^^^ b)
  exact BitVec.ofNat_xor.symm
theorem nI_and7 (a : Nat) : nI a &&& 7 = nI (a % 8) := by
  rw [show (7 : Int32) = nI 7 from rfl, nI_and, show (7 : Nat) = 2 ^ 3 - 1 from rfl, Nat.and_two_pow_sub_one_eq_mod]
theorem nI_and1 (a : Nat) : nI a &&& 1 = nI (a % 2) := by
  rw [show (1 : Int32) = nI 1 from rfl, nI_and, show (1 : Nat) = 2 ^ 1 - 1 from rfl, Nat.and_two_pow_sub_one_eq_mod]
theorem nI_shr1 {a : Nat} (h : a < 2 ^ 31) : nI a >>> ((1 : Int32) &&& 31) = nI (a / 2) := pk_shrN h _ 1 rfl
theorem nI_shr3 {a : Nat} (h : a < 2 ^ 31) : nI a >>> ((3 : Int32) &&& 31) = nI (a / 8) := pk_shrN h _ 3 rfl
theorem nI_shr6 {a : Nat} (h : a < 2 ^ 31) : nI a >>> ((6 : Int32) &&& 31) = nI (a / 64) := pk_shrN h _ 6 rfl
theorem nI_shl1 {a : Nat} (h : a < 2 ^ 31) : nI a <<< ((1 : Int32) &&& 31) = nI (a * 2) := pk_shlN _ 1 rfl (by omega)
/-- a step (x, m) as a word y of the class -/
def EncR (x m y : Int32) : Prop := (x = 300 ∧ y = nI 3) ∨ (x = 301 ∧ y = nI 4) ∨ (x = 302 ∧ y = nI 5) ∨ (∃ c, c < 4 ∧ x = nI c ∧ y = nI (8 * c)) ∨ (∃ c v, c < 5 ∧ v ≤ 9999 ∧ x = nI (100 + c) ∧ m = nI v ∧ y = nI (1 + 8 * c + 64 * v)) ∨ ∃ c v, c < 5 ∧ v ≤ 9999 ∧ x = nI (200 + c) ∧ m = nI v ∧ y = nI (2 + 8 * c + 64 * v)
/-- a rule of text t: its sort, number and code; N steps in all -/
def RlS (f : Nat → Int32) (t n N : Nat) : Prop := (∃ s, s < 6 ∧ f (rl t n) = nI s) ∧ (∃ v, v ≤ 9999 ∧ f (rl t n + 1) = nI v ∧ (f (rl t n) = 2 → 1 ≤ v)) ∧ ∃ s e, s ≤ e ∧ e ≤ N ∧ f (rl t n + 2) = nI s ∧ f (rl t n + 3) = nI e ∧ okH f t (e - s) s 0
/-- the text object at q is f's text t, of r rules -/
def TxS (F A : Nat → Nat → Int32) (q : Nat) (f : Nat → Int32) (t r : Nat) : Prop := r ≤ 12 ∧ F q 1 = nI r ∧ f (12826 + 850 * t + 1) = nI r ∧ F q 0 = f (12826 + 850 * t) ∧ (∀ n, n < r → A (q + 1) n = f (rl t n) ∧ A (q + 2) n = f (rl t n + 1) ∧ A (q + 3) n = f (rl t n + 2) ∧ A (q + 4) n = f (rl t n + 3)) ∧ ∃ N, N ≤ 400 ∧ (∀ n, n < r → RlS f t n N) ∧ ∀ i, i < N → EncR (f (cd t i)) (f (cd t i + 1)) (A (q + 5) i)
/-- facts and tags stand so in the class's Facts -/
def FcC (F : Nat → Nat → Int32) (L : Nat → Int64) (tg : Nat → Bool) (fc : Nat → Int32) : Prop := (∀ k, k < 4 → bt (F 1405 1) k = tg k) ∧ ∀ k, k < 5 → L k = (fc k).toInt64
theorem okH_0 {f : Nat → Int32} {t k i h : Nat} (ho : okH f t (k + 1) i h) (e : f (cd t i) = 300) : 1 ≤ h := by
  rcases ho with ⟨_, h1, _⟩ | ⟨h1 | h1, _, _⟩ | ⟨⟨c, hc, e1⟩, _, _⟩
  · exact h1
  · rw [e] at h1; exact absurd h1 (by decide)
  · rw [e] at h1; exact absurd h1 (by decide)
  · rw [e] at e1
    have := (nI_eq (a := 300) (b := c) (by omega) (by omega)).mp e1
    omega
theorem okH_1 {f : Nat → Int32} {t k i h : Nat} (ho : okH f t (k + 1) i h) (e : f (cd t i) = 301 ∨ f (cd t i) = 302) : 2 ≤ h := by
  rcases ho with ⟨h1, _, _⟩ | ⟨_, h1, _⟩ | ⟨⟨c, hc, e1⟩, _, _⟩
  · rw [h1] at e; exact absurd e (by decide)
  · exact h1
  · rw [e1] at e
    rcases e with e | e
    · have := (nI_eq (a := c) (b := 301) (by omega) (by omega)).mp e
      omega
    · have := (nI_eq (a := c) (b := 302) (by omega) (by omega)).mp e
      omega
theorem okH_2 {f : Nat → Int32} {t k i h c : Nat} (ho : okH f t (k + 1) i h) (hc : c < 205) (e : f (cd t i) = nI c) : h < 30 := by
  rcases ho with ⟨h1, _, _⟩ | ⟨h1, _, _⟩ | ⟨_, h1, _⟩
  · rw [e] at h1
    have := (nI_eq (a := c) (b := 300) (by omega) (by omega)).mp h1
    omega
  · rw [e] at h1
    rcases h1 with h1 | h1
    · have := (nI_eq (a := c) (b := 301) (by omega) (by omega)).mp h1
      omega
    · have := (nI_eq (a := c) (b := 302) (by omega) (by omega)).mp h1
      omega
  · exact h1
theorem step_v {tg : Nat → Bool} {fc : Nat → Int32} {c : Nat} {than : Int32} {st : List Bool} (hc : c < 300) : stepH tg fc (nI c) than st = valH tg fc (nI c) than :: st := by
  unfold stepH
  rw [if_neg (fun h => by have := (nI_eq (a := c) (b := 300) (by omega) (by omega)).mp h; omega), if_neg (fun h => by have := (nI_leI (a := 301) (b := c) (by omega) (by omega)).mp h; omega)]
theorem val_t {tg : Nat → Bool} {fc : Nat → Int32} {c : Nat} {than : Int32} (hc : c < 4) : valH tg fc (nI c) than = tg c := by
  unfold valH
  rw [if_pos (show nI c < 4 from (nI_ltI (b := 4) (by omega) (by omega)).mpr hc), nI_clamp (by omega)]
theorem val_l {tg : Nat → Bool} {fc : Nat → Int32} {c : Nat} {than : Int32} (hc : c < 5) : valH tg fc (nI (100 + c)) than = decide (fc c < than) := by
  unfold valH
  rw [if_neg (fun h => by have := (nI_ltI (b := 4) (by omega) (by omega)).mp h; omega), if_pos (show nI (100 + c) < 200 from (nI_ltI (b := 200) (by omega) (by omega)).mpr (by omega)), show nI (100 + c) - 100 = nI c from (pk_sub (a := 100 + c) (b := 100) (by omega)).trans (by rw [Nat.add_sub_cancel_left]), nI_clamp (by omega)]
theorem val_m {tg : Nat → Bool} {fc : Nat → Int32} {c : Nat} {than : Int32} (hc : c < 5) : valH tg fc (nI (200 + c)) than = decide (than < fc c) := by
  unfold valH
  rw [if_neg (fun h => by have := (nI_ltI (b := 4) (by omega) (by omega)).mp h; omega), if_neg (fun h => by have := (nI_ltI (b := 200) (by omega) (by omega)).mp h; omega), show nI (200 + c) - 200 = nI c from (pk_sub (a := 200 + c) (b := 200) (by omega)).trans (by rw [Nat.add_sub_cancel_left]), nI_clamp (by omega)]
theorem dec_congr {P Q : Prop} [Decidable P] [Decidable Q] (h : P ↔ Q) : decide P = decide Q := by
  by_cases hp : P
  · rw [decide_eq_true hp, decide_eq_true (h.mp hp)]
  · rw [decide_eq_false hp, decide_eq_false (fun q => hp (h.mpr q))]
section CALLS
variable {g : aG} {d : Nat} {w : aW} {F A : Nat → Nat → Int32} {L : Nat → Int64} {f : Nat → Int32} {tg : Nat → Bool} {fc : Nat → Int32}
theorem c_holds {q t r n : Nat} (hq : TeAt q) (hT : TxS F A q f t r) (hr : n < r) (hF : FcC F L tg fc) (hn : w.1 = N0) : Ev g (d + 2) 51 [.ref q, .int (nI n), .ref 1405] (cW w F A L) (RetQ (bI (holdR f t n tg fc)) (cW w F A L)) noX := by
  obtain ⟨r12, t1, tr, t0, tn, N, hN, tR, tE⟩ := hT
  obtain ⟨a1, a2, a3, a4⟩ := tn n hr
  obtain ⟨_, _, s, e, hse, heN, es, ee, hok⟩ := tR n hr
  rw [es] at a3
  rw [ee] at a4
  have eH : holdR f t n tg fc = topB (runH f t tg fc s (e - s)) := by
    unfold holdR holdF
    rw [es, ee, nI_clamp (by omega), nI_clamp (by omega)]
  rw [eH]
  have loop : ∀ k, k ≤ e - s → (runH f t tg fc s k).length ≤ 30 → ∀ l5 l6, EX g mbOf (Ev g (d + 1)) (infoOf 51) k_X5_holds (RetQ (bI (topB (runH f t tg fc s (e - s)))) (cW w F A L)) noX w.1 (cW w F A L) 0 0 7 [some (.ref q), some (.int (nI n)), some (.ref 1405), some (.int (nI (encS (runH f t tg fc s k)))), some (.int (nI (s + k))), l5, l6] [] := by
    refine downN _ fun k hk ih => ?_
    intro hlen l5 l6
    have hrun := (run_congr (tg := tg) (tg' := tg) (fc := fc) (fc' := fc) (fun _ _ => rfl) (fun _ _ => rfl) hok k hk).2
    refine x_il rfl rfl ?_
    refine x_al rfl rfl ?_
    refine x_getC rfl hn (by with_reducible exact te_0 (by first | assumption | exact teA (by omega) | exact teN | exact teD | exact teB (by assumption) (by omega))) (by exact rfl) ?_
    refine x_il rfl rfl ?_
    refine x_iaC rfl hn (by with_reducible exact te_4 (by first | assumption | exact teA (by omega) | exact teN | exact teD | exact teB (by assumption) (by omega))) (by omega) ?_
    rw [a4]
    refine x_icgeN rfl (by omega) (fun c => ?_) (fun c => ?_)
    · refine x_il rfl rfl ?_
      refine x_c rfl ?_
      refine x_and rfl ?_
      refine x_c rfl ?_
      obtain rfl : k = e - s := by omega
      rw [Nat.sub_self] at hrun
      generalize runH f t tg fc s (e - s) = st at *
      rw [nI_and1]
      rcases st with _ | ⟨x, r⟩
      · refine x_icne rfl (fun c => absurd rfl c) (fun c => ?_)
        refine x_c rfl ?_
        refine x_go rfl ?_
        refine x_retz rfl (Nat.le_of_ble_eq_true rfl) (Nat.le_of_ble_eq_true rfl) rfl (by first | rfl | assumption) ?_
        exact ⟨rfl, rfl⟩
      · have hr0 : r = [] := by
          have h9 : (x :: r).length ≤ 1 := hrun
          cases r with
          | nil => rfl
          | cons y r => simp at h9
        subst hr0
        have := bN_le x
        rw [show encS [x] % 2 = bN x by show (2 * 1 + bN x) % 2 = bN x; omega, bN_nI]
        cases x with
        | true =>
          refine x_icne rfl (fun c => absurd rfl c) (fun c => ?_)
          refine x_c rfl ?_
          refine x_go rfl ?_
          refine x_retz rfl (Nat.le_of_ble_eq_true rfl) (Nat.le_of_ble_eq_true rfl) rfl (by first | rfl | assumption) ?_
          exact ⟨rfl, rfl⟩
        | false =>
          refine x_icne rfl (fun c => ?_) (fun c => absurd (show (0 : Int32) = 1 from c) (by decide))
          refine x_c rfl ?_
          refine x_retz rfl (Nat.le_of_ble_eq_true rfl) (Nat.le_of_ble_eq_true rfl) rfl (by first | rfl | assumption) ?_
          exact ⟨rfl, rfl⟩
    refine x_il rfl rfl ?_
    refine x_al rfl rfl ?_
    refine x_getC rfl hn (by with_reducible exact te_0 (by first | assumption | exact teA (by omega) | exact teN | exact teD | exact teB (by assumption) (by omega))) (by exact rfl) ?_
    refine x_lenC rfl hn (by with_reducible exact te_5 (by first | assumption | exact teA (by omega) | exact teN | exact teD | exact teB (by assumption) (by omega))) ?_
    have hkl : k < e - s := by omega
    have ih := ih hkl
    rw [show runH f t tg fc s (k + 1) = stepH tg fc (f (cd t (s + k))) (f (cd t (s + k) + 1)) (runH f t tg fc s k) from rfl] at ih
    obtain ⟨j, hj⟩ : ∃ j, e - s - k = j + 1 := ⟨e - s - k - 1, by omega⟩
    rw [hj] at hrun
    generalize hst : runH f t tg fc s k = st at *
    have hen := encS_lt st
    refine x_icgeN rfl (by omega) (fun c => absurd c (by omega)) (fun c => ?_)
    refine x_al rfl rfl ?_
    refine x_getC rfl hn (by with_reducible exact te_0 (by first | assumption | exact teA (by omega) | exact teN | exact teD | exact teB (by assumption) (by omega))) (by exact rfl) ?_
    refine x_il rfl rfl ?_
    refine x_iaC rfl hn (by with_reducible exact te_5 (by first | assumption | exact teA (by omega) | exact teN | exact teD | exact teB (by assumption) (by omega))) (by omega) ?_
    refine x_is (lo' := [_, _, _, _, _, _, _]) rfl (Nat.le_of_ble_eq_true rfl) rfl ?_
    refine x_il rfl rfl ?_
    refine x_c rfl ?_
    refine x_and rfl ?_
    refine x_is (lo' := [_, _, _, _, _, _, _]) rfl (Nat.le_of_ble_eq_true rfl) rfl ?_
    refine x_il rfl rfl ?_
    refine x_c rfl ?_
    refine x_and rfl ?_
    have next : ∀ st' : List Bool, st' = stepH tg fc (f (cd t (s + k))) (f (cd t (s + k) + 1)) st → st'.length ≤ 30 → ∀ l5 l6, EX g mbOf (Ev g (d + 1)) (infoOf 51) k_X5_holds (RetQ (bI (topB (runH f t tg fc s (e - s)))) (cW w F A L)) noX w.1 (cW w F A L) 0 0 74 [some (.ref q), some (.int (nI n)), some (.ref 1405), some (.int (nI (encS st'))), some (.int (nI (s + k))), l5, l6] [] := by
      intro st' he hl l5 l6
      refine x_inc1 (lo' := [_, _, _, _, _, _, _]) rfl rfl rfl ?_
      refine x_go rfl ?_
      subst he
      exact ih hl _ _
    have push : ∀ c, c < 205 → f (cd t (s + k)) = nI c → ∀ b : Bool, b = valH tg fc (nI c) (f (cd t (s + k) + 1)) → ∀ l5 l6, EX g mbOf (Ev g (d + 1)) (infoOf 51) k_X5_holds (RetQ (bI (topB (runH f t tg fc s (e - s)))) (cW w F A L)) noX w.1 (cW w F A L) 0 0 72 [some (.ref q), some (.int (nI n)), some (.ref 1405), some (.int (nI (encS st))), some (.int (nI (s + k))), l5, l6] [.int (bI b), .int (nI (encS st * 2))] := by
      intro c hc hf b hb l5 l6
      have h30 := okH_2 hrun hc hf
      refine x_or rfl ?_
      refine x_is (lo' := [_, _, _, _, _, _, _]) rfl (Nat.le_of_ble_eq_true rfl) rfl ?_
      have hor : nI (encS st * 2) ||| bI b = nI (encS (b :: st)) := by
        have h9 := or_bit (encS st) false b
        rw [show bN false = 0 from rfl, Nat.add_zero, Bool.false_or] at h9
        rw [← bN_nI, nI_or, Nat.mul_comm, h9]
        rfl
      rw [hor]
      exact next (b :: st) (by rw [hf, step_v (by omega), hb]) (by show st.length + 1 ≤ 30; omega) _ _
    have h31 : st.length < 30 → encS st < 2 ^ 31 := fun h => Nat.lt_of_lt_of_le hen (Nat.pow_le_pow_right (by decide) (by omega))
    rcases tE (s + k) (by omega) with ⟨ex, ey⟩ | ⟨ex, ey⟩ | ⟨ex, ey⟩ | ⟨c, hc, ex, ey⟩ | ⟨c, v, hc, hv, ex, em, ey⟩ | ⟨c, v, hc, hv, ex, em, ey⟩
    · rw [ey]
      have h1 := okH_0 hrun ex
      rw [show nI 3 &&& 7 = nI 3 from rfl]
      refine x_swJ 0 rfl (by decide) rfl ?_
      refine x_il rfl rfl ?_
      refine x_c rfl ?_
      refine x_xor rfl ?_
      refine x_is (lo' := [_, _, _, _, _, _, _]) rfl (Nat.le_of_ble_eq_true rfl) rfl ?_
      refine x_go rfl ?_
      obtain ⟨x, st0, rfl⟩ : ∃ x r, st = x :: r := by
        cases st with
        | nil => exact absurd h1 (by decide)
        | cons x r => exact ⟨x, r, rfl⟩
      rw [show (1 : Int32) = nI 1 from rfl, nI_xor, show encS (x :: st0) ^^^ 1 = encS ((!x) :: st0) from xor_bit _ _]
      exact next ((!x) :: st0) (by rw [ex, step300]) hlen _ _
    · rw [ey]
      have h1 := okH_1 hrun (Or.inl ex)
      rw [show nI 4 &&& 7 = nI 4 from rfl]
      refine x_swJ 1 rfl (by decide) rfl ?_
      refine x_il rfl rfl ?_
      refine x_c rfl ?_
      refine x_shr rfl ?_
      refine x_il rfl rfl ?_
      refine x_c rfl ?_
      refine x_or rfl ?_
      refine x_and rfl ?_
      refine x_is (lo' := [_, _, _, _, _, _, _]) rfl (Nat.le_of_ble_eq_true rfl) rfl ?_
      refine x_go rfl ?_
      obtain ⟨b, a, st0, rfl⟩ : ∃ b a r, st = b :: a :: r := by
        cases st with
        | nil => exact absurd h1 (by decide)
        | cons b r =>
          cases r with
          | nil => exact absurd h1 (by show ¬ 2 ≤ 1; decide)
          | cons a r => exact ⟨b, a, r, rfl⟩
      have hl : encS (b :: a :: st0) < 2 ^ 31 := Nat.lt_of_lt_of_le hen (Nat.pow_le_pow_right (by decide) (by omega))
      have hl2 : (st0.length + 1) ≤ 30 := by (have : st0.length + 1 + 1 ≤ 30 := hlen); omega
      have hb := bN_le b
      have ha := bN_le a
      rw [nI_and1, nI_shr1 hl, show encS (b :: a :: st0) % 2 = bN b by show (2 * encS (a :: st0) + bN b) % 2 = _; omega, show encS (b :: a :: st0) / 2 = encS (a :: st0) by show (2 * encS (a :: st0) + bN b) / 2 = _; omega]
      have hle : encS (a :: st0) < 2 ^ 31 := by
        have h7 : encS (b :: a :: st0) = 2 * encS (a :: st0) + bN b := rfl
        omega
      have : nI (encS (a :: st0)) &&& (nI (bN b) ||| -2) = nI (encS ((a && b) :: st0)) := by
        cases b with
        | true =>
          rw [show (nI (bN true) ||| -2) = -1 by decide, Int32.and_neg_one, Bool.and_true]
        | false =>
          rw [show (nI (bN false) ||| -2) = nI 4294967294 by decide, nI_and, and_m2 hle, show encS (a :: st0) / 2 = encS st0 by show (2 * encS st0 + bN a) / 2 = _; omega, Bool.and_false]
          rfl
      rw [this]
      exact next ((a && b) :: st0) (by rw [ex, step301]) hl2 _ _
    · rw [ey]
      have h1 := okH_1 hrun (Or.inr ex)
      rw [show nI 5 &&& 7 = nI 5 from rfl]
      refine x_swJ 2 rfl (by decide) rfl ?_
      refine x_il rfl rfl ?_
      refine x_c rfl ?_
      refine x_shr rfl ?_
      refine x_il rfl rfl ?_
      refine x_or rfl ?_
      refine x_is (lo' := [_, _, _, _, _, _, _]) rfl (Nat.le_of_ble_eq_true rfl) rfl ?_
      refine x_go rfl ?_
      obtain ⟨b, a, st0, rfl⟩ : ∃ b a r, st = b :: a :: r := by
        cases st with
        | nil => exact absurd h1 (by decide)
        | cons b r =>
          cases r with
          | nil => exact absurd h1 (by show ¬ 2 ≤ 1; decide)
          | cons a r => exact ⟨b, a, r, rfl⟩
      have hl : encS (b :: a :: st0) < 2 ^ 31 := Nat.lt_of_lt_of_le hen (Nat.pow_le_pow_right (by decide) (by omega))
      have hl2 : (st0.length + 1) ≤ 30 := by (have : st0.length + 1 + 1 ≤ 30 := hlen); omega
      have hb := bN_le b
      have ha := bN_le a
      rw [nI_and1, nI_shr1 hl, show encS (b :: a :: st0) % 2 = bN b by show (2 * encS (a :: st0) + bN b) % 2 = _; omega, show encS (b :: a :: st0) / 2 = encS (a :: st0) by show (2 * encS (a :: st0) + bN b) / 2 = _; omega, nI_or, show encS (a :: st0) ||| bN b = encS ((a || b) :: st0) from or_bit _ _ _]
      exact next ((a || b) :: st0) (by rw [ex, step302]) hl2 _ _
    · rw [ey]
      have h3 := h31 (okH_2 hrun (by omega) ex)
      rw [nI_and7, show 8 * c % 8 = 0 by omega]
      refine x_swD rfl (by decide) ?_
      refine x_il rfl rfl ?_
      refine x_c rfl ?_
      refine x_shl rfl ?_
      refine x_al rfl rfl ?_
      refine x_il rfl rfl ?_
      refine x_c rfl ?_
      refine x_and rfl ?_
      refine x_il rfl rfl ?_
      refine x_c rfl ?_
      refine x_shr rfl ?_
      refine x_c rfl ?_
      refine x_and rfl ?_
      refine x_il rfl rfl ?_
      refine x_c rfl ?_
      refine x_shr rfl ?_
      rw [nI_and7, nI_shr3 (by omega), nI_shr6 (by omega), nI_shl1 h3, nI_and7, show 8 * c % 8 = 0 by omega, show 8 * c / 8 % 8 = c by omega]
      refine x_call4 (c_isTag (by omega) hn) rfl (Nat.le_of_ble_eq_true rfl) (Or.inl (by first | exact hn | assumption)) (rcv_at (cw_fs (by with_reducible exact sp_1405) hn) (by decide) (by decide)) (Nat.le_of_ble_eq_true rfl) (Nat.le_of_ble_eq_true rfl) (fun E w9 hq => hq.elim) ?_
      rintro v9 w9 ⟨rfl, rfl⟩
      rw [hF.1 c hc]
      cases hb : tg c with
      | true =>
        refine x_ifeq rfl (fun e9 => absurd e9 (show ¬ (1 : Int32) = 0 by decide)) (fun e9 => ?_)
        refine x_c rfl ?_
        refine x_go rfl ?_
        exact push c (by omega) ex true (by rw [val_t hc, hb]) _ _
      | false =>
        refine x_ifeq rfl (fun e9 => ?_) (fun e9 => absurd rfl e9)
        refine x_c rfl ?_
        exact push c (by omega) ex false (by rw [val_t hc, hb]) _ _
    · rw [ey]
      have h3 := h31 (okH_2 hrun (by omega) ex)
      rw [nI_and7, show (1 + 8 * c + 64 * v) % 8 = 1 by omega]
      refine x_swD rfl (by decide) ?_
      refine x_il rfl rfl ?_
      refine x_c rfl ?_
      refine x_shl rfl ?_
      refine x_al rfl rfl ?_
      refine x_il rfl rfl ?_
      refine x_c rfl ?_
      refine x_and rfl ?_
      refine x_il rfl rfl ?_
      refine x_c rfl ?_
      refine x_shr rfl ?_
      refine x_c rfl ?_
      refine x_and rfl ?_
      refine x_il rfl rfl ?_
      refine x_c rfl ?_
      refine x_shr rfl ?_
      rw [nI_and7, nI_shr3 (by omega), nI_shr6 (by omega), nI_shl1 h3, nI_and7, show (1 + 8 * c + 64 * v) % 8 = 1 by omega, show (1 + 8 * c + 64 * v) / 8 % 8 = c by omega, show (1 + 8 * c + 64 * v) / 64 = v by omega]
      refine x_call4 (c_isLess hc hn) rfl (Nat.le_of_ble_eq_true rfl) (Or.inl (by first | exact hn | assumption)) (rcv_at (cw_fs (by with_reducible exact sp_1405) hn) (by decide) (by decide)) (Nat.le_of_ble_eq_true rfl) (Nat.le_of_ble_eq_true rfl) (fun E w9 hq => hq.elim) ?_
      rintro v9 w9 ⟨rfl, rfl⟩
      rw [hF.2 c hc, dec_congr (L_lt (x := fc c) (y := nI v)), ← em]
      cases hb : decide (fc c < f (cd t (s + k) + 1)) with
      | true =>
        refine x_ifeq rfl (fun e9 => absurd e9 (show ¬ (1 : Int32) = 0 by decide)) (fun e9 => ?_)
        refine x_c rfl ?_
        refine x_go rfl ?_
        exact push (100 + c) (by omega) ex true (by rw [val_l hc, hb]) _ _
      | false =>
        refine x_ifeq rfl (fun e9 => ?_) (fun e9 => absurd rfl e9)
        refine x_c rfl ?_
        exact push (100 + c) (by omega) ex false (by rw [val_l hc, hb]) _ _
    · rw [ey]
      have h3 := h31 (okH_2 hrun (by omega) ex)
      rw [nI_and7, show (2 + 8 * c + 64 * v) % 8 = 2 by omega]
      refine x_swD rfl (by decide) ?_
      refine x_il rfl rfl ?_
      refine x_c rfl ?_
      refine x_shl rfl ?_
      refine x_al rfl rfl ?_
      refine x_il rfl rfl ?_
      refine x_c rfl ?_
      refine x_and rfl ?_
      refine x_il rfl rfl ?_
      refine x_c rfl ?_
      refine x_shr rfl ?_
      refine x_c rfl ?_
      refine x_and rfl ?_
      refine x_il rfl rfl ?_
      refine x_c rfl ?_
      refine x_shr rfl ?_
      rw [nI_and7, nI_shr3 (by omega), nI_shr6 (by omega), nI_shl1 h3, nI_and7, show (2 + 8 * c + 64 * v) % 8 = 2 by omega, show (2 + 8 * c + 64 * v) / 8 % 8 = c by omega, show (2 + 8 * c + 64 * v) / 64 = v by omega]
      refine x_call4 (c_isMore hc hn) rfl (Nat.le_of_ble_eq_true rfl) (Or.inl (by first | exact hn | assumption)) (rcv_at (cw_fs (by with_reducible exact sp_1405) hn) (by decide) (by decide)) (Nat.le_of_ble_eq_true rfl) (Nat.le_of_ble_eq_true rfl) (fun E w9 hq => hq.elim) ?_
      rintro v9 w9 ⟨rfl, rfl⟩
      rw [hF.2 c hc, dec_congr (L_lt (x := nI v) (y := fc c)), ← em]
      cases hb : decide (f (cd t (s + k) + 1) < fc c) with
      | true =>
        refine x_ifeq rfl (fun e9 => absurd e9 (show ¬ (1 : Int32) = 0 by decide)) (fun e9 => ?_)
        refine x_c rfl ?_
        refine x_go rfl ?_
        exact push (200 + c) (by omega) ex true (by rw [val_m hc, hb]) _ _
      | false =>
        refine x_ifeq rfl (fun e9 => ?_) (fun e9 => absurd rfl e9)
        refine x_c rfl ?_
        exact push (200 + c) (by omega) ex false (by rw [val_m hc, hb]) _ _
  refine ev_X5_holds ?_ (Nat.le_of_ble_eq_true rfl)
  refine x_lo (lo' := [some (.ref q), some (.int (nI n)), some (.ref 1405), none, none, none, none]) rfl ?_
  refine x_c rfl ?_
  refine x_is (lo' := [_, _, _, _, _, _, _]) rfl (Nat.le_of_ble_eq_true rfl) rfl ?_
  refine x_al rfl rfl ?_
  refine x_getC rfl hn (by with_reducible exact te_0 (by first | assumption | exact teA (by omega) | exact teN | exact teD | exact teB (by assumption) (by omega))) (by exact rfl) ?_
  refine x_il rfl rfl ?_
  refine x_iaC rfl hn (by with_reducible exact te_3 (by first | assumption | exact teA (by omega) | exact teN | exact teD | exact teB (by assumption) (by omega))) (by omega) ?_
  refine x_is (lo' := [_, _, _, _, _, _, _]) rfl (Nat.le_of_ble_eq_true rfl) rfl ?_
  rw [a3]
  have := loop 0 (Nat.zero_le _)
  rw [run_0] at this
  exact this (Nat.zero_le _) _ _
end CALLS
