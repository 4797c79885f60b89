/-! parts of a set of doubtful fingers, in either order -/
def sqD (D : Nat) : Nat → Nat
  | 0 => 0
  | i + 1 => ((sqD D i + 4294967296 - D) % 4294967296) &&& D
def rqD (D : Nat) : Nat → Nat
  | 0 => D
  | i + 1 => (rqD D i - 1) &&& D
def sbM (D : Nat) : Nat := 2 ^ cn (fun j => D.testBit j) 10
theorem subs16 : ∀ D : Fin 1024, cn (fun j => D.1.testBit j) 10 ≤ 4 → sbM D.1 ≤ D.1 + 1 ∧ sbM D.1 ≤ 16 ∧ ∀ i : Fin 16, i.1 < sbM D.1 → sqD D.1 i.1 = rqD D.1 (sbM D.1 - 1 - i.1) ∧ (rqD D.1 i.1 = 0 ↔ i.1 + 1 = sbM D.1) ∧ (sqD D.1 (i.1 + 1) = 0 ↔ i.1 + 1 = sbM D.1) ∧ sqD D.1 i.1 &&& D.1 = sqD D.1 i.1 := by decide +kernel
