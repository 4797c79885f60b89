/-! the reference: its tape (row 1427 of length L, contents t; a 6 = the point, a 7 = the end) -/
def TpAt (w : aW) (a : Nat → Value) (L pt en : Nat) (t : Nat → Int32) : Prop := aAt w 1424 (.inr (11, mdL a)) ∧ a 4 = .ref 1427 ∧ aAt w 1427 (.inl (2, L, .inl t)) ∧ a 6 = .int (nI pt) ∧ a 7 = .int (nI en) ∧ en ≤ L ∧ L < 2 ^ 31 ∧ pt ≤ en
theorem m_isAt {g : aG} {d : Nat} {w : aW} {a : Nat → Value} {L pt en : Nat} {t : Nat → Int32} {x y : Int32} (h : TpAt w a L pt en t) : Ev g (d + 1) 187 [.ref 1424, .int x, .int y] w (RetQ (bI (decide (pt < en ∧ x ≤ t pt ∧ t pt ≤ y))) w) noX := by
  obtain ⟨h1, h2, h3, h4, h5, h6, h7, h8⟩ := h
  refine ev_X11_isAt ?_ (Nat.le_of_ble_eq_true rfl)
  refine x_al rfl rfl ?_
  refine x_get rfl (by repeat (first | assumption | exact aAt_self (by repeat (first | assumption | exact aAt_self (by assumption) | refine aAt_ne (by first | decide | omega) ?_)) | refine aAt_ne (by first | decide | omega) ?_)) (by exact rfl) ?_
  rw [h4]
  refine x_al rfl rfl ?_
  refine x_get rfl (by repeat (first | assumption | exact aAt_self (by repeat (first | assumption | exact aAt_self (by assumption) | refine aAt_ne (by first | decide | omega) ?_)) | refine aAt_ne (by first | decide | omega) ?_)) (by exact rfl) ?_
  rw [h5]
  refine x_icge rfl (fun c => ?_) (fun c => ?_)
  · refine x_c rfl ?_
    refine x_retz rfl (Nat.le_of_ble_eq_true rfl) (Nat.le_of_ble_eq_true rfl) rfl (by first | rfl | assumption) ?_
    exact ⟨by rw [bI_f (fun h => absurd (nI_lt h.1 (by omega)) (Int32.not_lt.mpr c))], rfl⟩
  have hlt : pt < en := by
    rcases Nat.lt_or_ge pt en with h | h
    · exact h
    · exfalso
      have : pt = en := by omega
      subst this
      exact c (Int32.le_refl _)
  refine x_al rfl rfl ?_
  refine x_get rfl (by repeat (first | assumption | exact aAt_self (by repeat (first | assumption | exact aAt_self (by assumption) | refine aAt_ne (by first | decide | omega) ?_)) | refine aAt_ne (by first | decide | omega) ?_)) (by exact rfl) ?_
  rw [h2]
  refine x_al rfl rfl ?_
  refine x_get rfl (by repeat (first | assumption | exact aAt_self (by repeat (first | assumption | exact aAt_self (by assumption) | refine aAt_ne (by first | decide | omega) ?_)) | refine aAt_ne (by first | decide | omega) ?_)) (by exact rfl) ?_
  rw [h4]
  refine x_baN rfl h3 (by omega) ?_
  refine x_il rfl rfl ?_
  refine x_iclt rfl (fun c2 => ?_) (fun c2 => ?_)
  · refine x_c rfl ?_
    refine x_retz rfl (Nat.le_of_ble_eq_true rfl) (Nat.le_of_ble_eq_true rfl) rfl (by first | rfl | assumption) ?_
    exact ⟨by rw [bI_f (fun h => absurd c2 (Int32.not_lt.mpr h.2.1))], rfl⟩
  refine x_al rfl rfl ?_
  refine x_get rfl (by repeat (first | assumption | exact aAt_self (by repeat (first | assumption | exact aAt_self (by assumption) | refine aAt_ne (by first | decide | omega) ?_)) | refine aAt_ne (by first | decide | omega) ?_)) (by exact rfl) ?_
  rw [h2]
  refine x_al rfl rfl ?_
  refine x_get rfl (by repeat (first | assumption | exact aAt_self (by repeat (first | assumption | exact aAt_self (by assumption) | refine aAt_ne (by first | decide | omega) ?_)) | refine aAt_ne (by first | decide | omega) ?_)) (by exact rfl) ?_
  rw [h4]
  refine x_baN rfl h3 (by omega) ?_
  refine x_il rfl rfl ?_
  refine x_icgt rfl (fun c3 => ?_) (fun c3 => ?_)
  · refine x_c rfl ?_
    refine x_retz rfl (Nat.le_of_ble_eq_true rfl) (Nat.le_of_ble_eq_true rfl) rfl (by first | rfl | assumption) ?_
    exact ⟨by rw [bI_f (fun h => absurd c3 (Int32.not_lt.mpr h.2.2))], rfl⟩
  refine x_c rfl ?_
  refine x_go rfl ?_
  refine x_retz rfl (Nat.le_of_ble_eq_true rfl) (Nat.le_of_ble_eq_true rfl) rfl (by first | rfl | assumption) ?_
  exact ⟨by rw [bI_t ⟨hlt, Int32.not_lt.mp c2, Int32.not_lt.mp c3⟩], rfl⟩
