/-! sheets of the class; cw_ -/
section CALLS
variable {g : aG} {d : Nat} {w : aW} {F A : Nat → Nat → Int32} {L : Nat → Int64}
abbrev clrH (h : Nat → Int32) (x y : Int32) : Prop := h 5 ≤ x ∧ x ≤ h 7 ∧ h 6 ≤ y ∧ y ≤ h 8
theorem c_isClear {q : Nat} {x y : Int32} (hq : ShAt q) (hn : w.1 = N0) : Ev g (d + 1) 62 [.ref q, .int x, .int y] (cW w F A L) (RetQ (bI (decide (clrH (F q) x y))) (cW w F A L)) noX := by
  refine ev_X6_isClear ?_ (Nat.le_of_ble_eq_true rfl)
  refine x_lo (lo' := [some (.ref q), some (.int x), some (.int y)]) rfl ?_
  refine x_il rfl rfl ?_
  refine x_al rfl rfl ?_
  refine x_getC rfl hn (by first | assumption | exact sh_0 (by assumption) | exact sh_r (r := 0) (by assumption) (by decide) | exact sh_r (r := 1) (by assumption) (by decide) | exact sh_r (r := 2) (by assumption) (by decide) | exact sh_r (r := 3) (by assumption) (by decide) | rfl) (by exact rfl) ?_
  refine x_iclt rfl (fun c1 => ?_) (fun c1 => ?_)
  · refine x_c rfl ?_
    refine x_retz rfl (Nat.le_of_ble_eq_true rfl) (Nat.le_of_ble_eq_true rfl) rfl (by first | rfl | assumption) ?_
    exact ret_f (fun h => absurd h.1 (Int32.not_le.mpr c1))
  refine x_il rfl rfl ?_
  refine x_al rfl rfl ?_
  refine x_getC rfl hn (by first | assumption | exact sh_0 (by assumption) | exact sh_r (r := 0) (by assumption) (by decide) | exact sh_r (r := 1) (by assumption) (by decide) | exact sh_r (r := 2) (by assumption) (by decide) | exact sh_r (r := 3) (by assumption) (by decide) | rfl) (by exact rfl) ?_
  refine x_icgt rfl (fun c2 => ?_) (fun c2 => ?_)
  · refine x_c rfl ?_
    refine x_retz rfl (Nat.le_of_ble_eq_true rfl) (Nat.le_of_ble_eq_true rfl) rfl (by first | rfl | assumption) ?_
    exact ret_f (fun h => absurd h.2.1 (Int32.not_le.mpr c2))
  refine x_il rfl rfl ?_
  refine x_al rfl rfl ?_
  refine x_getC rfl hn (by first | assumption | exact sh_0 (by assumption) | exact sh_r (r := 0) (by assumption) (by decide) | exact sh_r (r := 1) (by assumption) (by decide) | exact sh_r (r := 2) (by assumption) (by decide) | exact sh_r (r := 3) (by assumption) (by decide) | rfl) (by exact rfl) ?_
  refine x_iclt rfl (fun c3 => ?_) (fun c3 => ?_)
  · refine x_c rfl ?_
    refine x_retz rfl (Nat.le_of_ble_eq_true rfl) (Nat.le_of_ble_eq_true rfl) rfl (by first | rfl | assumption) ?_
    exact ret_f (fun h => absurd h.2.2.1 (Int32.not_le.mpr c3))
  refine x_il rfl rfl ?_
  refine x_al rfl rfl ?_
  refine x_getC rfl hn (by first | assumption | exact sh_0 (by assumption) | exact sh_r (r := 0) (by assumption) (by decide) | exact sh_r (r := 1) (by assumption) (by decide) | exact sh_r (r := 2) (by assumption) (by decide) | exact sh_r (r := 3) (by assumption) (by decide) | rfl) (by exact rfl) ?_
  refine x_icgt rfl (fun c4 => ?_) (fun c4 => ?_)
  · refine x_c rfl ?_
    refine x_retz rfl (Nat.le_of_ble_eq_true rfl) (Nat.le_of_ble_eq_true rfl) rfl (by first | rfl | assumption) ?_
    exact ret_f (fun h => absurd h.2.2.2 (Int32.not_le.mpr c4))
  refine x_c rfl ?_
  refine x_go rfl ?_
  refine x_retz rfl (Nat.le_of_ble_eq_true rfl) (Nat.le_of_ble_eq_true rfl) rfl (by first | rfl | assumption) ?_
  exact ret_t ⟨Int32.not_lt.mp c1, Int32.not_lt.mp c2, Int32.not_lt.mp c3, Int32.not_lt.mp c4⟩
end CALLS
