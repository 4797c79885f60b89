/-! rows copied; cw_ -/
section CALLS
variable {g : aG} {d : Nat} {w : aW} {F A : Nat → Nat → Int32} {L : Nat → Int64}
theorem c_copy {p q n : Nat} (hp : shp p = .ia n) (hq : shp q = .ia n) (hl : n < 2 ^ 31) (hn : w.1 = N0) : Ev g (d + 2) 176 [.ref p, .ref q] (cW w F A L) (fun v w' => v = none ∧ w' = cW w F (udA A q (va_cpy (A p) (A q) 0 0 n)) L) noX := by
  refine ev_X10_copy ?_ (Nat.le_of_ble_eq_true rfl)
  refine x_lo (lo' := [some (.ref p), some (.ref q)]) rfl ?_
  refine x_al rfl rfl ?_
  refine x_c rfl ?_
  refine x_al rfl rfl ?_
  refine x_c rfl ?_
  refine x_al rfl rfl ?_
  refine x_len rfl (cw_ia hp hn) (by decide) ?_
  refine x_al rfl rfl ?_
  refine x_len rfl (cw_ia hq hn) (by decide) ?_
  refine x_call2 (m_minN ⟨hl, hl⟩) rfl (Nat.le_of_ble_eq_true rfl) (Or.inl (by first | exact hn | assumption)) trivial (Nat.le_of_ble_eq_true rfl) (Nat.le_of_ble_eq_true rfl) (fun E w9 hq => hq.elim) ?_
  rintro v9 w9 ⟨rfl, rfl⟩
  rw [Nat.min_self]
  refine x_cpy rfl (cw_ia hp hn) (cw_ia hq hn) (by decide) (by decide) (by decide) (nI_pos hl) (by rw [nI_clamp hl]; exact Nat.le_of_eq (Nat.zero_add n)) (by rw [nI_clamp hl]; exact Nat.le_of_eq (Nat.zero_add n)) ?_
  rw [cw_uA hq, nI_clamp hl]
  refine x_retv rfl (Nat.le_of_ble_eq_true rfl) (Nat.le_of_ble_eq_true rfl) rfl ?_
  exact ⟨rfl, rfl⟩
end CALLS
