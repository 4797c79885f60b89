/-! readings, one by one, in either order; cw_ -/
theorem pig : ∀ (n m : Nat) (T : Nat → Nat → Prop), (∀ i, i < m → ∃ j, j < n ∧ T i j) → (∀ i i' j, i < m → i' < m → T i j → T i' j → i = i') → m ≤ n := by
  intro n
  induction n with
  | zero =>
    intro m T h _
    rcases Nat.eq_zero_or_pos m with e | e
    · omega
    · obtain ⟨j, hj, _⟩ := h 0 e; omega
  | succ n ih =>
    intro m T h hu
    rcases Classical.em (∃ i0, i0 < m ∧ T i0 n) with ⟨i0, h0, t0⟩ | hno
    · have := ih (m - 1) (fun i j => T (if i < i0 then i else i + 1) j) (fun i hi => by
        have hb : (if i < i0 then i else i + 1) < m ∧ (if i < i0 then i else i + 1) ≠ i0 := by split <;> omega
        obtain ⟨j, hj, t⟩ := h _ hb.1
        refine ⟨j, ?_, t⟩
        rcases Nat.lt_or_ge j n with h3 | h3
        · exact h3
        · obtain rfl : j = n := by omega
          exact absurd (hu _ _ _ hb.1 h0 t t0) hb.2) (fun i i' j h1 h2 t1 t2 => by
        have := hu _ _ _ (show (if i < i0 then i else i + 1) < m by split <;> omega) (show (if i' < i0 then i' else i' + 1) < m by split <;> omega) t1 t2
        revert this
        split <;> split <;> omega)
      omega
    · have := ih m T (fun i hi => by
        obtain ⟨j, hj, t⟩ := h i hi
        refine ⟨j, ?_, t⟩
        rcases Nat.lt_or_ge j n with h3 | h3
        · exact h3
        · obtain rfl : j = n := by omega
          exact absurd ⟨i, hi, t⟩ hno) hu
      omega
/-- e names, each once, the n things of P -/
def EN {X : Type} (n : Nat) (e : Nat → X) (P : X → Prop) : Prop := (∀ i j, i < n → j < n → e i = e j → i = j) ∧ ∀ x, (∃ j, j < n ∧ e j = x) ↔ P x
theorem EN.z {X : Type} {e : Nat → X} : EN 0 e (fun _ => False) := ⟨fun i j h => absurd h (Nat.not_lt_zero _), fun x => ⟨fun ⟨j, h, _⟩ => absurd h (Nat.not_lt_zero _), fun h => h.elim⟩⟩
theorem EN.old {X : Type} {n : Nat} {e : Nat → X} {P : X → Prop} {x : X} (h : EN n e P) (hx : P x) : EN n e (fun y => P y ∨ y = x) := ⟨h.1, fun y => (h.2 y).trans ⟨Or.inl, fun h2 => h2.elim id (fun h3 => h3 ▸ hx)⟩⟩
theorem EN.new {X : Type} {n : Nat} {e e' : Nat → X} {P : X → Prop} {x : X} (h : EN n e P) (hx : ¬ P x) (h1 : e' n = x) (h2 : ∀ j, j < n → e' j = e j) : EN (n + 1) e' (fun y => P y ∨ y = x) := by
  have hne : ∀ j, j < n → ¬ e' j = x := fun j hj h3 => hx ((h.2 x).mp ⟨j, hj, (h2 j hj).symm.trans h3⟩)
  refine ⟨fun i j hi hj hij => ?_, fun y => ⟨?_, ?_⟩⟩
  · rcases Nat.lt_or_ge i n with a | a
    · rcases Nat.lt_or_ge j n with b | b
      · exact h.1 i j a b (by rw [← h2 i a, ← h2 j b]; exact hij)
      · obtain rfl : j = n := by omega
        exact absurd (hij.trans h1) (hne i a)
    · obtain rfl : i = n := by omega
      rcases Nat.lt_or_ge j i with b | b
      · exact absurd (hij.symm.trans h1) (hne j b)
      · omega
  · rintro ⟨j, hj, e0⟩
    rcases Nat.lt_or_ge j n with b | b
    · exact Or.inl ((h.2 y).mp ⟨j, b, (h2 j b).symm.trans e0⟩)
    · obtain rfl : j = n := by omega
      exact Or.inr (e0.symm.trans h1)
  · rintro (h3 | h3)
    · obtain ⟨j, hj, e0⟩ := (h.2 y).mpr h3
      exact ⟨j, by omega, (h2 j hj).trans e0⟩
    · exact ⟨n, by omega, h1.trans h3.symm⟩
theorem EN.iff {X : Type} {n : Nat} {e : Nat → X} {P P' : X → Prop} (h : EN n e P) (hp : ∀ x, P x ↔ P' x) : EN n e P' := ⟨h.1, fun x => (h.2 x).trans (hp x)⟩
/-- as many of the one as of the other -/
theorem EN.len {X Y : Type} {n m : Nat} {e : Nat → X} {e' : Nat → Y} {P : X → Prop} {P' : Y → Prop} (J : X → Y) (hJ : ∀ x y, P x → P y → J x = J y → x = y) (h : EN n e P) (h' : EN m e' P') (hp : ∀ y, P' y ↔ ∃ x, P x ∧ J x = y) : n = m := by
  refine Nat.le_antisymm (pig m n (fun i j => J (e i) = e' j) (fun i hi => ?_) (fun i i' j hi hi' t t' => ?_)) (pig n m (fun i j => J (e j) = e' i) (fun i hi => ?_) (fun i i' j hi hi' t t' => ?_))
  · obtain ⟨j, hj, ej⟩ := (h'.2 (J (e i))).mpr ((hp _).mpr ⟨e i, (h.2 _).mp ⟨i, hi, rfl⟩, rfl⟩)
    exact ⟨j, hj, ej.symm⟩
  · exact h.1 i i' hi hi' (hJ _ _ ((h.2 _).mp ⟨i, hi, rfl⟩) ((h.2 _).mp ⟨i', hi', rfl⟩) (t.trans t'.symm))
  · obtain ⟨x, hx, ex⟩ := (hp _).mp ((h'.2 (e' i)).mp ⟨i, hi, rfl⟩)
    obtain ⟨j, hj, ej⟩ := (h.2 x).mpr hx
    exact ⟨j, hj, by show J (e j) = e' i; rw [ej, ex]⟩
  · exact h'.1 i i' hi hi' (t.symm.trans t')
theorem hasR_iff {row : Nat → Int64} {v : Int64} : ∀ n, hasR row v n = true ↔ ∃ j, j < n ∧ row j = v := by
  intro n
  induction n with
  | zero => exact ⟨fun h => (by cases h), fun ⟨j, h, _⟩ => absurd h (Nat.not_lt_zero _)⟩
  | succ n ih =>
    show (hasR row v n || (row n == v)) = true ↔ _
    rw [Bool.or_eq_true, ih, beq_iff_eq]
    constructor
    · rintro (⟨j, h1, h2⟩ | h)
      · exact ⟨j, by omega, h2⟩
      · exact ⟨n, by omega, h⟩
    · rintro ⟨j, h1, h2⟩
      rcases Nat.lt_or_ge j n with b | b
      · exact Or.inl ⟨j, b, h2⟩
      · obtain rfl : j = n := by omega
        exact Or.inr h2
theorem addR_EN {v : Int64} {s : rdS} {P : Int64 → Prop} (h : EN s.1 s.2 P) : EN (addR v s).1 (addR v s).2 (fun x => P x ∨ x = v) := by
  unfold addR
  by_cases c : hasR s.2 v s.1 = true
  · rw [if_pos c]
    exact h.old ((h.2 v).mp ((hasR_iff _).mp c))
  · rw [if_neg c]
    exact h.new (fun hp => c ((hasR_iff _).mpr ((h.2 v).mpr hp))) (pk_uLs) (fun j hj => pk_uLn (by omega))
theorem rdF_EN {V : Nat → Int64} {D : Nat} (hD : D < 1024) (h4 : cn (fun j => D.testBit j) 10 ≤ 4) : ∀ k i (s : rdS) (P : Int64 → Prop), i < sbM D → sbM D - i ≤ k → EN s.1 s.2 P → EN (rdF V D k (rqD D i) s).1 (rdF V D k (rqD D i) s).2 (fun x => P x ∨ ∃ j, i ≤ j ∧ j < sbM D ∧ x = V (rqD D j)) := by
  obtain ⟨m1, m2, m3⟩ := subs16 ⟨D, hD⟩ h4
  have m1 : sbM D ≤ D + 1 := m1
  have m2 : sbM D ≤ 16 := m2
  intro k
  induction k with
  | zero => intro i s P h1 h2; omega
  | succ k ih =>
    intro i s P h1 h2 h
    have a := addR_EN (v := V (rqD D i)) h
    have hz := (m3 ⟨i, by omega⟩ h1).2.1
    unfold rdF
    by_cases c : rqD D i = 0
    · rw [if_pos c]
      have e := hz.mp c
      refine a.iff fun x => ⟨?_, ?_⟩
      · rintro (h3 | h3)
        · exact Or.inl h3
        · exact Or.inr ⟨i, Nat.le_refl _, h1, h3⟩
      · rintro (h3 | ⟨j, h5, h6, h7⟩)
        · exact Or.inl h3
        · obtain rfl : j = i := by have : i + 1 = sbM D := e; omega
          exact Or.inr h7
    · rw [if_neg c]
      have e : ¬ i + 1 = sbM D := fun h => c (hz.mpr h)
      refine (ih (i + 1) _ _ (by omega) (by omega) a).iff fun x => ⟨?_, ?_⟩
      · rintro ((h3 | h3) | ⟨j, h5, h6, h7⟩)
        · exact Or.inl h3
        · exact Or.inr ⟨i, Nat.le_refl _, h1, h3⟩
        · exact Or.inr ⟨j, by omega, h6, h7⟩
      · rintro (h3 | ⟨j, h5, h6, h7⟩)
        · exact Or.inl (Or.inl h3)
        · by_cases ej : j = i
          · subst ej; exact Or.inl (Or.inr h7)
          · exact Or.inr ⟨j, by omega, h6, h7⟩
section K
variable {f : Nat → Int32} {np nm nc nt ns nh : Nat}
/-- the doubtful fingers of a card, as a set -/
def dbN (f : Nat → Int32) (c : Nat) : Nat := bitsN (dbt f c) 10
theorem dbN_lt {c : Nat} : dbN f c < 1024 := bitsN_lt _ _
theorem dbN_4 {c : Nat} (h4 : cn (dbt f c) 10 ≤ 4) : cn (fun j => (dbN f c).testBit j) 10 ≤ 4 := by
  refine Nat.le_trans (cn_mono (P := dbt f c) fun x hx h => ?_) h4
  unfold dbN at h
  rw [bitsN_tb] at h
  simp at h
  exact h.2
def JL (n : Nat) : Int64 := Int64.ofNat n
theorem JL_inj {a b : Nat} (ha : a < 2 ^ 30) (hb : b < 2 ^ 30) (h : JL a = JL b) : a = b := by
  have e1 : (JL a).toInt = a := Int64.toInt_ofNat_of_lt (by omega)
  have e2 : (JL b).toInt = b := Int64.toInt_ofNat_of_lt (by omega)
  rw [h, e2] at e1
  omega
theorem nI_L {a : Nat} (ha : a < 2 ^ 15) : (nI a).toInt64 = JL a := by
  apply Int64.toInt_inj.mp
  rw [Int32.toInt_toInt64, show (nI a).toInt = (a : Int) from Int32.toInt_ofNat_of_lt (by omega)]
  exact (Int64.toInt_ofNat_of_lt (by omega)).symm
theorem JL_15 {a b : Nat} (ha : a < 2 ^ 15) (hb : b < 2 ^ 15) : JL a <<< ((15 : Int32).toInt64 &&& 63) ||| JL b = JL (32768 * a + b) := by
  apply Int64.toBitVec_inj.mp
  rw [Int64.toBitVec_or, Int64.toBitVec_shiftLeft]
  apply BitVec.eq_of_toNat_eq
  rw [BitVec.toNat_or, BitVec.shiftLeft_eq', BitVec.toNat_shiftLeft]
  have e : ((((15 : Int32).toInt64 &&& 63 : Int64).toBitVec.smod 64).toNat) = 15 := by decide
  rw [e]
  show (a % 2 ^ 64) <<< 15 % 2 ^ 64 ||| b % 2 ^ 64 = (32768 * a + b) % 2 ^ 64
  rw [Nat.mod_eq_of_lt (show a < 2 ^ 64 by omega), Nat.mod_eq_of_lt (show b < 2 ^ 64 by omega), Nat.shiftLeft_eq, Nat.mod_eq_of_lt (show a * 2 ^ 15 < 2 ^ 64 by omega), Nat.mod_eq_of_lt (show 32768 * a + b < 2 ^ 64 by omega), show a * 2 ^ 15 = 2 ^ 15 * a by omega, ← Nat.two_pow_add_eq_or_of_lt (show b < 2 ^ 15 from hb)]
theorem rdV_J {c b : Nat} (hI : IV f np nm nc nt ns nh) (hc : c < nc) (hb : SB f c b) : rdV f c b = JL (DN f c b 0 10) := by
  have l1 := DN_lt (o := 0) hI hc hb 5 (by omega)
  have l2 := DN_lt (o := 5) hI hc hb 5 (by omega)
  unfold rdV
  rw [nuC_D hI hc hb 5 (by omega), nuC_D hI hc hb 5 (by omega)]
  show (nI (DN f c b 0 5)).toInt64 <<< ((15 : Int32).toInt64 &&& 63) ||| (nI (DN f c b 5 5)).toInt64 = _
  rw [nI_L (by omega), nI_L (by omega), JL_15 (by omega) (by omega), DN_5]
/-- the i-th reading of the class -/
def vD (f : Nat → Int32) (c i : Nat) : Nat := DN f c (sqD (dbN f c) i) 0 10
def nD (f : Nat → Int32) (c : Nat) : Nat := sbM (dbN f c)
theorem sqD_SB {c b : Nat} (h : b &&& dbN f c = b) : SB f c b := by
  intro j hj hb
  rw [bt_nI (by omega), ← h, Nat.testBit_and] at hb
  have h2 : (dbN f c).testBit j = true := by
    revert hb
    cases (dbN f c).testBit j <;> simp
  unfold dbN at h2
  rw [bitsN_tb] at h2
  have h3 : dbt f c j = true := by revert h2; simp
  exact (of_decide_eq_true h3).1
end K
