/-! the world at the law's beginning; cw_ -/
def cF0 (q k : Nat) : Int32 := match (oBureau 0)[q]? with
  | some o => intF o k
  | none => 0
def m0W (k : Nat) : Int32 := if k = 10 then -1 else 0
theorem cF0_v : (cF0 0 3 = 0 ∧ cF0 1 1 = 0 ∧ cF0 1 2 = -1 ∧ cF0 11 1 = 0 ∧ cF0 17 3 = 0 ∧ cF0 19 3 = 0) ∧ (cF0 6 0 = 0 ∧ cF0 6 1 = 1 ∧ cF0 6 2 = 10 ∧ cF0 6 3 = 0 ∧ cF0 6 4 = 0 ∧ cF0 6 5 = 0 ∧ cF0 6 6 = 0 ∧ cF0 6 7 = 0) ∧ (cF0 706 1 = 0 ∧ cF0 1396 11 = 1) ∧ (cF0 1409 4 = 0 ∧ cF0 1409 5 = 0 ∧ cF0 1409 6 = 0 ∧ cF0 1409 7 = 63 ∧ cF0 1409 8 = 63) := by decide +kernel
theorem cF0_at {q : Nat} {o : bO} (h : (oBureau 0)[q]? = some o) : cF0 q = intF o := by
  funext k
  unfold cF0
  rw [h]
theorem cE_q {F : Nat → Nat → Int32} {q : Nat} {h : Nat → Int32} {e : va_E} (hF : F q = h) : ∀ s, cE F (fun _ _ => 0) (fun _ => 0) q e s = cE (fun _ => h) (fun _ _ => 0) (fun _ => 0) q e s := by
  intro s
  subst hF
  rcases s with s | s | s | s | s <;> rfl
theorem f0W_z {i : Nat} (h1 : i ≠ 1) (h2 : i ≠ 2) : f0W i = 0 := by
  unfold f0W
  rw [upd_ne h2, upd_ne h1]
theorem IV_0 : IV f0W 0 0 0 0 0 0 := by
  have h0 : ∀ i, 3 ≤ i → f0W i = 0 := fun i h => f0W_z (by omega) (by omega)
  have n0 : (0 : Int32) = nI 0 := rfl
  have e0 : f0W 0 = nI 0 := f0W_z (by decide) (by decide)
  have e2 : f0W 2 = nI 10 := upd_at
  have c0 : (0 : Int32) = nI (cN (0 : Int32)) ∧ cN (0 : Int32) ≤ 8 := by decide
  refine ⟨⟨⟨h0 4 (by omega), by omega⟩, ⟨h0 5825 (by omega), by omega⟩, ⟨h0 6606 (by omega), by omega⟩, ⟨h0 12825 (by omega), by omega⟩, ⟨h0 10223 (by omega), by omega⟩, ⟨h0 11424 (by omega), by omega⟩⟩, ⟨⟨0, by omega, e0⟩, ⟨10, by omega, e2⟩⟩, ⟨fun p hp => by rw [h0 _ (by omega)]; exact c0, fun k hk => by rw [h0 _ (by omega)]; exact c0⟩, ⟨fun p hp => absurd hp (by omega), fun p h1 h2 => by rw [h0 _ (by omega)]⟩, ⟨fun k hk => absurd hk (by omega), fun k h1 h2 => by rw [h0 _ (by omega)]⟩, ⟨fun c hc => absurd hc (by omega), fun k c j h1 h2 h3 h4 => h0 _ (by omega)⟩, fun t ht => absurd ht (by omega), fun r hr => absurd hr (by omega)⟩
theorem KI_0 : KI cF0 (fun _ _ => 0) f0W 0 0 1 := ⟨cF0_v.2.2.1.2, by decide, fun k _ => ⟨0, by omega, rfl, fun h => absurd h (by decide)⟩⟩
theorem RS_0 : RS cF0 (fun _ _ => 0) f0W 6 0 0 0 0 0 0 := by
  obtain ⟨⟨_, _, _, a1, a2, a3⟩, ⟨b0, b1, b2, b3, b4, b5, b6, b7⟩, _⟩ := cF0_v
  refine ⟨⟨b0, b1, b2, b3.trans (f0W_z (by decide) (by decide)).symm, b4, b5, b6, b7⟩, fun p hp => absurd hp (by omega), fun p hp => absurd hp (by omega), fun p hp => absurd hp (by omega), fun p hp => absurd hp (by omega), a1, ⟨a2, fun r hr => absurd hr (by omega)⟩, ⟨a3, fun r hr => absurd hr (by omega)⟩⟩
theorem GsB_0 : GsB cF0 (fun _ _ => 0) m0W (fun _ _ => 0) 0 (fun _ => 0) := by
  obtain ⟨⟨a0, a1, a2, _⟩, _, ⟨c1, _⟩, d⟩ := cF0_v
  exact ⟨⟨a1, rfl, by omega, fun i hi => absurd hi (by omega)⟩, a2, ⟨c1, Or.inl ⟨a0, rfl⟩⟩, d⟩
