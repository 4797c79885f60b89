/-! how many parts a set of four has -/
theorem sub16 : ∀ D : Fin 1024, cn (fun j => D.1.testBit j) 10 ≤ 4 → cn (fun s => (s &&& D.1) == s) (D.1 + 1) ≤ 16 := by decide +kernel
