/-! the reference's own objects 1424–1437 in one piece: m its numbers, f its world, A its rows of ints, bytes and booleans, B its rows of longs -/
def mdF (m : Nat → Int32) : List Value := [.int (m 0), .ref 1425, .ref 1426, .int (m 3), .ref 1427, .int (m 5), .int (m 6), .int (m 7), .int (m 8), .int (m 9), .int (m 10), .ref 1428, .ref 1429, .int (m 13), .int (m 14), .int (m 15), .int (m 16), .int (m 17), .ref 1430, .ref 1431, .int (m 20), .ref 1432, .ref 1433, .int (m 23), .ref 1434, .ref 1435, .ref 1436, .ref 1437]
def mdV (m : Nat → Int32) : Nat → Value := fun k => match (mdF m)[k]? with
  | some v => v
  | none => .null
theorem mdV_L (m : Nat → Int32) : mdL (mdV m) = mdF m := rfl
def rI (q : Nat) : Option (Nat × Nat) := if q = 1426 then some (0, 21326) else if q = 1427 then some (2, 400) else if q = 1428 then some (0, 5) else if q = 1429 then some (0, 64) else if q = 1430 then some (0, 8) else if q = 1431 then some (0, 8) else if q = 1434 then some (3, 4) else if q = 1435 then some (0, 5) else if q = 1436 then some (3, 400) else if q = 1437 then some (0, 16) else none
def rC (m f : Nat → Int32) (A : Nat → Nat → Int32) (B : Nat → Nat → Int64) (q : Nat) (e : va_E) : va_E := if q = 1424 then .inr (11, mdF m) else if q = 1425 then .inl (0, 22176, .inl f) else if q = 1432 then .inl (1, 16, .inr (.inl (B 1432))) else if q = 1433 then .inl (1, 16, .inr (.inl (B 1433))) else match rI q with
  | some (t, n) => .inl (t, n, .inl (A q))
  | none => e
def rW (w : aW) (m f : Nat → Int32) (A : Nat → Nat → Int32) (B : Nat → Nat → Int64) : aW := (w.1, fun q => rC m f A B q (w.2 q))
def udA (A : Nat → Nat → Int32) (q : Nat) (h : Nat → Int32) : Nat → Nat → Int32 := fun j => if j = q then h else A j
def udB (A : Nat → Nat → Int64) (q : Nat) (h : Nat → Int64) : Nat → Nat → Int64 := fun j => if j = q then h else A j
theorem downN {P : Nat → Prop} (n : Nat) (h : ∀ r, r ≤ n → (r < n → P (r + 1)) → P r) : ∀ r, r ≤ n → P r := by
  have : ∀ k r, r + k = n → P r := by
    intro k
    induction k with
    | zero => intro r hr; exact h r (by omega) (fun h1 => by omega)
    | succ k ih => intro r hr; exact h r (by omega) (fun h1 => ih (r + 1) (by omega))
  intro r hr
  exact this (n - r) r (by omega)
theorem ret_t {P : Prop} [Decidable P] {w : aW} (h : P) : RetQ (bI (decide P)) w (some (.int 1)) w := ⟨by rw [bI_t h], rfl⟩
theorem ret_f {P : Prop} [Decidable P] {w : aW} (h : ¬ P) : RetQ (bI (decide P)) w (some (.int 0)) w := ⟨by rw [bI_f h], rfl⟩
theorem bI_iff {P Q : Prop} [Decidable P] [Decidable Q] (h : P ↔ Q) : bI (decide P) = bI (decide Q) := by
  by_cases hp : P
  · rw [bI_t hp, bI_t (h.mp hp)]
  · rw [bI_f hp, bI_f (fun q => hp (h.mpr q))]
theorem bI_01 (b : Bool) : bI b &&& 1 = bI b := by cases b <;> rfl
section RULES2
variable {g : aG} {d : Nat} {I : aInfo} {K : List aI} {Qr : Option Value → aW → Prop} {Qx : String → aW → Prop} {nb : Nat} {w : aW} {uc us i : Nat} {lo : List (Option Value)} {st : List Value}
theorem x_ifeqB {a : Nat} {P : Prop} [Decidable P] (hK : K[i]? = some (aO 15 a 0)) (kt : ¬ P → EX g mbOf (Ev g d) I K Qr Qx nb w uc us a lo st) (kf : P → EX g mbOf (Ev g d) I K Qr Qx nb w uc us (i + 1) lo st) : EX g mbOf (Ev g d) I K Qr Qx nb w uc us i lo (.int (bI (decide P)) :: st) := by
  by_cases h : P
  · exact x_ifeq hK (fun c => absurd (by rw [← c, bI_t h] : (0 : Int32) = 1) (by decide)) (fun _ => kf h)
  · exact x_ifeq hK (fun _ => kt h) (fun c => absurd (bI_f h) c)
theorem x_ifneB {a : Nat} {P : Prop} [Decidable P] (hK : K[i]? = some (aO 15 a 1)) (kt : P → EX g mbOf (Ev g d) I K Qr Qx nb w uc us a lo st) (kf : ¬ P → EX g mbOf (Ev g d) I K Qr Qx nb w uc us (i + 1) lo st) : EX g mbOf (Ev g d) I K Qr Qx nb w uc us i lo (.int (bI (decide P)) :: st) := by
  by_cases h : P
  · exact x_ifne hK (fun _ => kt h) (fun c => absurd (by rw [← c, bI_t h] : (0 : Int32) = 1) (by decide))
  · exact x_ifne hK (fun c => absurd (bI_f h) c) (fun _ => kf h)
theorem x_iceqN {a x y : Nat} (hK : K[i]? = some (aO 16 a 0)) (hx : x < 2 ^ 31 ∧ y < 2 ^ 31) (kt : x = y → EX g mbOf (Ev g d) I K Qr Qx nb w uc us a lo st) (kf : ¬ x = y → EX g mbOf (Ev g d) I K Qr Qx nb w uc us (i + 1) lo st) : EX g mbOf (Ev g d) I K Qr Qx nb w uc us i lo (.int (nI y) :: .int (nI x) :: st) :=
  x_iceq hK (fun c => kt ((nI_eq hx.1 hx.2).mp c)) (fun c => kf (fun h => c ((nI_eq hx.1 hx.2).mpr h)))
theorem x_icneN {a x y : Nat} (hK : K[i]? = some (aO 16 a 1)) (hx : x < 2 ^ 31 ∧ y < 2 ^ 31) (kt : ¬ x = y → EX g mbOf (Ev g d) I K Qr Qx nb w uc us a lo st) (kf : x = y → EX g mbOf (Ev g d) I K Qr Qx nb w uc us (i + 1) lo st) : EX g mbOf (Ev g d) I K Qr Qx nb w uc us i lo (.int (nI y) :: .int (nI x) :: st) :=
  x_icne hK (fun c => kt (fun h => c ((nI_eq hx.1 hx.2).mpr h))) (fun c => kf ((nI_eq hx.1 hx.2).mp c))
theorem x_icltN {a x y : Nat} (hK : K[i]? = some (aO 16 a 2)) (hx : x < 2 ^ 31 ∧ y < 2 ^ 31) (kt : x < y → EX g mbOf (Ev g d) I K Qr Qx nb w uc us a lo st) (kf : y ≤ x → EX g mbOf (Ev g d) I K Qr Qx nb w uc us (i + 1) lo st) : EX g mbOf (Ev g d) I K Qr Qx nb w uc us i lo (.int (nI y) :: .int (nI x) :: st) :=
  x_iclt hK (fun c => kt ((nI_ltI hx.1 hx.2).mp c)) (fun c => kf (Nat.le_of_not_lt fun h => c ((nI_ltI hx.1 hx.2).mpr h)))
theorem x_icgeN {a x y : Nat} (hK : K[i]? = some (aO 16 a 3)) (hx : x < 2 ^ 31 ∧ y < 2 ^ 31) (kt : y ≤ x → EX g mbOf (Ev g d) I K Qr Qx nb w uc us a lo st) (kf : x < y → EX g mbOf (Ev g d) I K Qr Qx nb w uc us (i + 1) lo st) : EX g mbOf (Ev g d) I K Qr Qx nb w uc us i lo (.int (nI y) :: .int (nI x) :: st) :=
  x_icge hK (fun c => kt ((nI_leI hx.2 hx.1).mp c)) (fun c => kf (Nat.lt_of_not_le fun h => c ((nI_leI hx.2 hx.1).mpr h)))
theorem x_icgtN {a x y : Nat} (hK : K[i]? = some (aO 16 a 4)) (hx : x < 2 ^ 31 ∧ y < 2 ^ 31) (kt : y < x → EX g mbOf (Ev g d) I K Qr Qx nb w uc us a lo st) (kf : x ≤ y → EX g mbOf (Ev g d) I K Qr Qx nb w uc us (i + 1) lo st) : EX g mbOf (Ev g d) I K Qr Qx nb w uc us i lo (.int (nI y) :: .int (nI x) :: st) :=
  x_icgt hK (fun c => kt ((nI_ltI hx.2 hx.1).mp c)) (fun c => kf (Nat.le_of_not_lt fun h => c ((nI_ltI hx.2 hx.1).mpr h)))
theorem x_icleN {a x y : Nat} (hK : K[i]? = some (aO 16 a 5)) (hx : x < 2 ^ 31 ∧ y < 2 ^ 31) (kt : x ≤ y → EX g mbOf (Ev g d) I K Qr Qx nb w uc us a lo st) (kf : y < x → EX g mbOf (Ev g d) I K Qr Qx nb w uc us (i + 1) lo st) : EX g mbOf (Ev g d) I K Qr Qx nb w uc us i lo (.int (nI y) :: .int (nI x) :: st) :=
  x_icle hK (fun c => kt ((nI_leI hx.1 hx.2).mp c)) (fun c => kf (Nat.lt_of_not_le fun h => c ((nI_leI hx.1 hx.2).mpr h)))
theorem x_ifeqN {a x : Nat} (hK : K[i]? = some (aO 15 a 0)) (hx : x < 2 ^ 31) (kt : x = 0 → EX g mbOf (Ev g d) I K Qr Qx nb w uc us a lo st) (kf : ¬ x = 0 → EX g mbOf (Ev g d) I K Qr Qx nb w uc us (i + 1) lo st) : EX g mbOf (Ev g d) I K Qr Qx nb w uc us i lo (.int (nI x) :: st) :=
  x_ifeq hK (fun c => kt ((nI_eq hx (by decide)).mp (c.trans nI_0.symm))) (fun c => kf (fun h => c (by rw [h, nI_0])))
theorem x_ifneN {a x : Nat} (hK : K[i]? = some (aO 15 a 1)) (hx : x < 2 ^ 31) (kt : ¬ x = 0 → EX g mbOf (Ev g d) I K Qr Qx nb w uc us a lo st) (kf : x = 0 → EX g mbOf (Ev g d) I K Qr Qx nb w uc us (i + 1) lo st) : EX g mbOf (Ev g d) I K Qr Qx nb w uc us i lo (.int (nI x) :: st) :=
  x_ifne hK (fun c => kt (fun h => c (by rw [h, nI_0]))) (fun c => kf ((nI_eq hx (by decide)).mp (c.trans nI_0.symm)))
theorem x_addN {x y : Nat} (hK : K[i]? = some (aO 4 0 0)) (k : EX g mbOf (Ev g d) I K Qr Qx nb w uc us (i + 1) lo (.int (nI (x + y)) :: st)) : EX g mbOf (Ev g d) I K Qr Qx nb w uc us i lo (.int (nI y) :: .int (nI x) :: st) := x_add hK (by rw [nI_add]; exact k)
theorem x_mulN {x y : Nat} (hK : K[i]? = some (aO 4 0 2)) (k : EX g mbOf (Ev g d) I K Qr Qx nb w uc us (i + 1) lo (.int (nI (x * y)) :: st)) : EX g mbOf (Ev g d) I K Qr Qx nb w uc us i lo (.int (nI y) :: .int (nI x) :: st) := x_mul hK (by rw [pk_mul]; exact k)
theorem x_subN {x y : Nat} (hK : K[i]? = some (aO 4 0 1)) (h : y ≤ x) (k : EX g mbOf (Ev g d) I K Qr Qx nb w uc us (i + 1) lo (.int (nI (x - y)) :: st)) : EX g mbOf (Ev g d) I K Qr Qx nb w uc us i lo (.int (nI y) :: .int (nI x) :: st) := x_sub hK (by rw [pk_sub h]; exact k)
theorem x_divN {x y : Nat} (hK : K[i]? = some (aO 5 0 0)) (h : x < 2 ^ 31 ∧ 0 < y ∧ y < 2 ^ 31) (k : EX g mbOf (Ev g d) I K Qr Qx nb w uc us (i + 1) lo (.int (nI (x / y)) :: st)) : EX g mbOf (Ev g d) I K Qr Qx nb w uc us i lo (.int (nI y) :: .int (nI x) :: st) := x_div hK (nI_ne0 h.2.1 h.2.2) (by rw [pk_div h.1 h.2.1 h.2.2]; exact k)
theorem x_remN {x y : Nat} (hK : K[i]? = some (aO 5 0 1)) (h : x < 2 ^ 31 ∧ 0 < y ∧ y < 2 ^ 31) (k : EX g mbOf (Ev g d) I K Qr Qx nb w uc us (i + 1) lo (.int (nI (x % y)) :: st)) : EX g mbOf (Ev g d) I K Qr Qx nb w uc us i lo (.int (nI y) :: .int (nI x) :: st) := x_rem hK (nI_ne0 h.2.1 h.2.2) (by rw [pk_rem h.1 h.2.1 h.2.2]; exact k)
theorem x_inc1 {a x : Nat} {lo' : List (Option Value)} (hK : K[i]? = some (aN a 1)) (h : lo[a]? = some (some (.int (nI x)))) (hl : setL lo a (.int (nI (x + 1))) = lo') (k : EX g mbOf (Ev g d) I K Qr Qx nb w uc us (i + 1) lo' st) : EX g mbOf (Ev g d) I K Qr Qx nb w uc us i lo st :=
  x_inc hK h (lo' := lo') (by rw [show nI x + 1 = nI (x + 1) from nI_add x 1]; exact hl) k
theorem x_swJ {a b : Nat} {l : List Nat} {x : Int32} {t : Nat} (j : Nat) (hK : K[i]? = some (aT a b l)) (hj : x.toInt = b + j) (hl : l[j]? = some t) (k : EX g mbOf (Ev g d) I K Qr Qx nb w uc us t lo st) : EX g mbOf (Ev g d) I K Qr Qx nb w uc us i lo (.int x :: st) := by
  have hlen : j < l.length := by
    rcases Nat.lt_or_ge j l.length with h | h
    · exact h
    · rw [List.getElem?_eq_none h] at hl; cases hl
  refine x_sw hK (fun c => ?_) (fun j' t' h1 h2 => ?_)
  · exfalso; omega
  · have : j' = j := by omega
    subst this
    rw [hl] at h1
    cases h1
    exact k
theorem x_swD {a b : Nat} {l : List Nat} {x : Int32} (hK : K[i]? = some (aT a b l)) (hx : x.toInt < b ∨ (b + l.length : Nat) ≤ x.toInt) (k : EX g mbOf (Ev g d) I K Qr Qx nb w uc us a lo st) : EX g mbOf (Ev g d) I K Qr Qx nb w uc us i lo (.int x :: st) := by
  refine x_sw hK (fun _ => k) (fun j' t' h1 h2 => ?_)
  exfalso
  have hlen : j' < l.length := by
    rcases Nat.lt_or_ge j' l.length with h | h
    · exact h
    · rw [List.getElem?_eq_none h] at h1; cases h1
  omega
end RULES2
/-! loops -/
def itF {σ ρ : Type} (step : Nat → σ → σ ⊕ ρ) (fin : σ → ρ) : Nat → Nat → σ → ρ
  | 0, _, s => fin s
  | k + 1, c, s => match step c s with
    | .inl s' => itF step fin k (c + 1) s'
    | .inr r => r
/-- from c to n, with the state s -/
def it {σ ρ : Type} (n : Nat) (step : Nat → σ → σ ⊕ ρ) (fin : σ → ρ) (c : Nat) (s : σ) : ρ := itF step fin (n - c) c s
theorem it_end {σ ρ : Type} {n : Nat} {step : Nat → σ → σ ⊕ ρ} {fin : σ → ρ} {c : Nat} {s : σ} (h : n ≤ c) : it n step fin c s = fin s := by
  unfold it; rw [show n - c = 0 by omega]; rfl
theorem it_go {σ ρ : Type} {n : Nat} {step : Nat → σ → σ ⊕ ρ} {fin : σ → ρ} {c : Nat} {s s' : σ} (h : c < n) (hs : step c s = .inl s') : it n step fin c s = it n step fin (c + 1) s' := by
  unfold it
  rw [show n - c = (n - (c + 1)) + 1 by omega]
  show (match step c s with | .inl s' => _ | .inr r => _) = _
  rw [hs]
theorem it_ret {σ ρ : Type} {n : Nat} {step : Nat → σ → σ ⊕ ρ} {fin : σ → ρ} {c : Nat} {s : σ} {r : ρ} (h : c < n) (hs : step c s = .inr r) : it n step fin c s = r := by
  unfold it
  rw [show n - c = (n - (c + 1)) + 1 by omega]
  show (match step c s with | .inl s' => _ | .inr r => _) = _
  rw [hs]
/-- what is gathered of the first r -/
def acc {σ : Type} (body : Nat → σ → σ) (s : σ) : Nat → σ
  | 0 => s
  | r + 1 => body r (acc body s r)
theorem acc_s {σ : Type} (body : Nat → σ → σ) (s : σ) (r : Nat) : acc body s (r + 1) = body r (acc body s r) := rfl
/-- how many of the first r are so -/
def cn (P : Nat → Bool) : Nat → Nat
  | 0 => 0
  | r + 1 => cn P r + if P r then 1 else 0
theorem cn_le (P : Nat → Bool) (r : Nat) : cn P r ≤ r := by
  induction r with
  | zero => exact Nat.le_refl _
  | succ r ih => unfold cn; split <;> omega
theorem cn_t {P : Nat → Bool} {r : Nat} (h : P r = true) : cn P (r + 1) = cn P r + 1 := by
  show cn P r + _ = _; rw [if_pos h]
theorem cn_f {P : Nat → Bool} {r : Nat} (h : ¬ P r = true) : cn P (r + 1) = cn P r := by
  show cn P r + _ = _; rw [if_neg h]; rfl
theorem cn_0 {P : Nat → Bool} {r : Nat} (h : cn P r = 0) {j : Nat} (hj : j < r) : P j = false := by
  induction r with
  | zero => exact absurd hj (Nat.not_lt_zero _)
  | succ r ih =>
    unfold cn at h
    rcases Nat.lt_or_ge j r with h1 | h1
    · exact ih (by omega) h1
    · rw [show j = r by omega]
      cases hp : P r
      · rfl
      · rw [hp] at h; simp at h
section RW
variable {w : aW} {m f : Nat → Int32} {A : Nat → Nat → Int32} {B : Nat → Nat → Int64}
theorem rw_md (hn : w.1 = N0) : aAt (rW w m f A B) 1424 (.inr (11, mdF m)) := ⟨by show 1424 < w.1; rw [hn]; decide, rfl⟩
theorem rw_w (hn : w.1 = N0) : aAt (rW w m f A B) 1425 (.inl (0, 22176, .inl f)) := ⟨by show 1425 < w.1; rw [hn]; decide, rfl⟩
theorem rw_B2 (hn : w.1 = N0) : aAt (rW w m f A B) 1432 (.inl (1, 16, .inr (.inl (B 1432)))) := ⟨by show 1432 < w.1; rw [hn]; decide, rfl⟩
theorem rw_B3 (hn : w.1 = N0) : aAt (rW w m f A B) 1433 (.inl (1, 16, .inr (.inl (B 1433)))) := ⟨by show 1433 < w.1; rw [hn]; decide, rfl⟩
theorem rI_rng {q t n : Nat} (h : rI q = some (t, n)) : 1426 ≤ q ∧ q < 1438 ∧ q ≠ 1432 ∧ q ≠ 1433 := by
  unfold rI at h
  repeat' split at h
  all_goals (first | omega | cases h)
theorem rw_A (hn : w.1 = N0) {q t n : Nat} (h : rI q = some (t, n)) : aAt (rW w m f A B) q (.inl (t, n, .inl (A q))) := by
  have h1 := rI_rng h
  refine ⟨by show q < w.1; rw [hn]; exact Nat.lt_of_lt_of_le h1.2.1 (by decide), ?_⟩
  show rC m f A B q (w.2 q) = _
  unfold rC
  rw [if_neg (by omega), if_neg (by omega), if_neg h1.2.2.1, if_neg h1.2.2.2, h]
theorem rC_o {q : Nat} {e : va_E} (h : q < 1424 ∨ 1438 ≤ q) : rC m f A B q e = e := by
  have h2 : rI q = none := by
    match hh : rI q with
    | none => rfl
    | some (t, n) => have h1 := rI_rng hh; omega
  unfold rC
  rw [if_neg (by omega), if_neg (by omega), if_neg (by omega), if_neg (by omega), h2]
theorem rw_o {q : Nat} {e : va_E} (h : q < 1424 ∨ 1438 ≤ q) : aAt (rW w m f A B) q e ↔ aAt w q e := by
  show q < w.1 ∧ rC m f A B q (w.2 q) = e ↔ _
  rw [rC_o h]; exact Iff.rfl
theorem rw_ext {w1 : aW} {m1 f1 : Nat → Int32} {A1 : Nat → Nat → Int32} {B1 : Nat → Nat → Int64} {c : Nat → va_E} (h : ∀ q, c q = rC m1 f1 A1 B1 q (w1.2 q)) : ((w1.1, c) : aW) = rW w1 m1 f1 A1 B1 := by
  unfold rW; congr 1; funext q; exact h q
theorem rw_uM {m1 : Nat → Int32} : aUp (rW w m f A B) 1424 (.inr (11, mdF m1)) = rW w m1 f A B := by
  show ((w.1, va_up (rW w m f A B).2 1424 (.inr (11, mdF m1))) : aW) = _
  refine rw_ext (w1 := w) fun q => ?_
  show va_up (fun q => rC m f A B q (w.2 q)) 1424 _ q = _
  unfold va_up
  by_cases hq : q = 1424
  · subst hq; rfl
  · simp only [hq, if_false]; unfold rC; rw [if_neg hq, if_neg hq]
theorem rw_uW {f1 : Nat → Int32} : aUp (rW w m f A B) 1425 (.inl (0, 22176, .inl f1)) = rW w m f1 A B := by
  show ((w.1, va_up (rW w m f A B).2 1425 (.inl (0, 22176, .inl f1))) : aW) = _
  refine rw_ext (w1 := w) fun q => ?_
  show va_up (fun q => rC m f A B q (w.2 q)) 1425 _ q = _
  unfold va_up
  by_cases hq : q = 1425
  · subst hq; rfl
  · simp only [hq, if_false]; unfold rC; by_cases h2 : q = 1424
    · rw [if_pos h2, if_pos h2]
    · rw [if_neg h2, if_neg hq, if_neg h2, if_neg hq]
theorem rw_uA {q0 t n : Nat} {h : Nat → Int32} (hq : rI q0 = some (t, n)) : aUp (rW w m f A B) q0 (.inl (t, n, .inl h)) = rW w m f (udA A q0 h) B := by
  have h1 := rI_rng hq
  show ((w.1, va_up (rW w m f A B).2 q0 (.inl (t, n, .inl h))) : aW) = _
  refine rw_ext (w1 := w) fun q => ?_
  show va_up (fun q => rC m f A B q (w.2 q)) q0 _ q = _
  unfold va_up
  by_cases h2 : q = q0
  · subst h2
    simp only [if_true]
    unfold rC
    rw [if_neg (by omega), if_neg (by omega), if_neg h1.2.2.1, if_neg h1.2.2.2, hq]
    simp [udA]
  · simp only [h2, if_false]; unfold rC; simp [udA, h2]
theorem rw_uB2 {h : Nat → Int64} : aUp (rW w m f A B) 1432 (.inl (1, 16, .inr (.inl h))) = rW w m f A (udB B 1432 h) := by
  show ((w.1, va_up (rW w m f A B).2 1432 (.inl (1, 16, .inr (.inl h)))) : aW) = _
  refine rw_ext (w1 := w) fun q => ?_
  show va_up (fun q => rC m f A B q (w.2 q)) 1432 _ q = _
  unfold va_up
  by_cases hq : q = 1432
  · subst hq; rfl
  · simp only [hq, if_false]; unfold rC; simp [udB, hq]
theorem rw_uB3 {h : Nat → Int64} : aUp (rW w m f A B) 1433 (.inl (1, 16, .inr (.inl h))) = rW w m f A (udB B 1433 h) := by
  show ((w.1, va_up (rW w m f A B).2 1433 (.inl (1, 16, .inr (.inl h)))) : aW) = _
  refine rw_ext (w1 := w) fun q => ?_
  show va_up (fun q => rC m f A B q (w.2 q)) 1433 _ q = _
  unfold va_up
  by_cases hq : q = 1433
  · subst hq; rfl
  · simp only [hq, if_false]; unfold rC; simp [udB, hq]
theorem rw_old (hn : w.1 = N0) : MdAt (rW w m f A B) (mdV m) f := ⟨rw_md hn, rfl, rw_w hn⟩
variable {g : aG} {d : Nat} {I : aInfo} {K : List aI} {Qr : Option Value → aW → Prop} {Qx : String → aW → Prop} {nb : Nat} {uc us i : Nat} {lo : List (Option Value)} {st : List Value}
theorem x_putM {b : Nat} {v : Int32} (hK : K[i]? = some (aO 20 11 b)) (hn : w.1 = N0) (hb : Nat.ble (b + 1) 28 = true) (h1 : narrow (ftyA 11 b) (.int v) = .int v) (h2 : fits (ftyA 11 b) (.int v) = true) (hs : (mdF m).set b (.int v) = mdF (upd m b v)) (k : EX g mbOf (Ev g d) I K Qr Qx nb (rW w (upd m b v) f A B) uc us (i + 1) lo st) : EX g mbOf (Ev g d) I K Qr Qx nb (rW w m f A B) uc us i lo (.int v :: .ref 1424 :: st) :=
  x_put hK (rw_md hn) (Nat.le_of_ble_eq_true hb) h1 h2 hs (by rw [rw_uM]; exact k)
theorem x_iasW {j : Nat} {x : Int32} (hK : K[i]? = some (aO 24 0 0)) (hn : w.1 = N0) (hj : j < 22176) (k : EX g mbOf (Ev g d) I K Qr Qx nb (rW w m (upd f j x) A B) uc us (i + 1) lo st) : EX g mbOf (Ev g d) I K Qr Qx nb (rW w m f A B) uc us i lo (.int x :: .int (nI j) :: .ref 1425 :: st) :=
  x_iasN hK (rw_w hn) ⟨hj, by decide⟩ (by rw [rw_uW]; exact k)
theorem x_iasA {q n j : Nat} {x : Int32} (hK : K[i]? = some (aO 24 0 0)) (hn : w.1 = N0) (hq : rI q = some (0, n)) (hj : j < n ∧ n < 2 ^ 31) (k : EX g mbOf (Ev g d) I K Qr Qx nb (rW w m f (udA A q (upd (A q) j x)) B) uc us (i + 1) lo st) : EX g mbOf (Ev g d) I K Qr Qx nb (rW w m f A B) uc us i lo (.int x :: .int (nI j) :: .ref q :: st) :=
  x_iasN hK (rw_A hn hq) hj (by rw [rw_uA hq]; exact k)
theorem x_basA {q n j : Nat} {x : Int32} (hK : K[i]? = some (aO 26 0 0)) (hn : w.1 = N0) (hq : rI q = some (2, n)) (hj : j < n ∧ n < 2 ^ 31) (k : EX g mbOf (Ev g d) I K Qr Qx nb (rW w m f (udA A q (upd (A q) j (vp_nar .byte x))) B) uc us (i + 1) lo st) : EX g mbOf (Ev g d) I K Qr Qx nb (rW w m f A B) uc us i lo (.int x :: .int (nI j) :: .ref q :: st) :=
  x_basN hK (rw_A hn hq) hj (by rw [rw_uA hq]; exact k)
theorem x_zasA {q n j : Nat} {x : Int32} (hK : K[i]? = some (aO 26 0 0)) (hn : w.1 = N0) (hq : rI q = some (3, n)) (hj : j < n ∧ n < 2 ^ 31) (hx : x &&& 1 = x) (k : EX g mbOf (Ev g d) I K Qr Qx nb (rW w m f (udA A q (upd (A q) j x)) B) uc us (i + 1) lo st) : EX g mbOf (Ev g d) I K Qr Qx nb (rW w m f A B) uc us i lo (.int x :: .int (nI j) :: .ref q :: st) :=
  x_zasN hK (rw_A hn hq) hj hx (by rw [rw_uA hq]; exact k)
theorem x_lasB2 {j : Nat} {x : Int64} (hK : K[i]? = some (aO 28 0 0)) (hn : w.1 = N0) (hj : j < 16) (k : EX g mbOf (Ev g d) I K Qr Qx nb (rW w m f A (udB B 1432 (vp_updL (B 1432) j x))) uc us (i + 1) lo st) : EX g mbOf (Ev g d) I K Qr Qx nb (rW w m f A B) uc us i lo (.long x :: .int (nI j) :: .ref 1432 :: st) :=
  x_lasN hK (rw_B2 hn) ⟨hj, by decide⟩ (by rw [rw_uB2]; exact k)
theorem x_lasB3 {j : Nat} {x : Int64} (hK : K[i]? = some (aO 28 0 0)) (hn : w.1 = N0) (hj : j < 16) (k : EX g mbOf (Ev g d) I K Qr Qx nb (rW w m f A (udB B 1433 (vp_updL (B 1433) j x))) uc us (i + 1) lo st) : EX g mbOf (Ev g d) I K Qr Qx nb (rW w m f A B) uc us i lo (.long x :: .int (nI j) :: .ref 1433 :: st) :=
  x_lasN hK (rw_B3 hn) ⟨hj, by decide⟩ (by rw [rw_uB3]; exact k)
end RW
