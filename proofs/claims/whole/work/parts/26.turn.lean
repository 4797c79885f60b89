/-! the reference: turned places, a cell around another, the tape's blanks -/
def tX (t x y : Int32) : Int32 := if t = 0 then x else if t = 1 then 63 - y else if t = 2 then 63 - x else y
theorem m_turnedX {g : aG} {d : Nat} {w : aW} {t x y : Int32} : Ev g (d + 1) 221 [.int t, .int x, .int y] w (RetQ (tX t x y) w) noX := by
  refine ev_X11_turnedX ?_ (Nat.le_of_ble_eq_true rfl)
  refine x_il rfl rfl ?_
  refine x_ifne rfl (fun c => ?_) (fun c => ?_)
  · refine x_il rfl rfl ?_
    refine x_c rfl ?_
    refine x_icne rfl (fun c2 => ?_) (fun c2 => ?_)
    · refine x_il rfl rfl ?_
      refine x_c rfl ?_
      refine x_icne rfl (fun c3 => ?_) (fun c3 => ?_)
      · refine x_il rfl rfl ?_
        refine x_reti rfl (Nat.le_of_ble_eq_true rfl) (Nat.le_of_ble_eq_true rfl) rfl ?_
        exact ⟨by unfold tX; rw [if_neg c, if_neg c2, if_neg c3], rfl⟩
      · refine x_c rfl ?_
        refine x_il rfl rfl ?_
        refine x_sub rfl ?_
        refine x_go rfl ?_
        refine x_reti rfl (Nat.le_of_ble_eq_true rfl) (Nat.le_of_ble_eq_true rfl) rfl ?_
        exact ⟨by unfold tX; rw [if_neg c, if_neg c2, if_pos c3], rfl⟩
    · refine x_c rfl ?_
      refine x_il rfl rfl ?_
      refine x_sub rfl ?_
      refine x_go rfl ?_
      refine x_reti rfl (Nat.le_of_ble_eq_true rfl) (Nat.le_of_ble_eq_true rfl) rfl ?_
      exact ⟨by unfold tX; rw [if_neg c, if_pos c2], rfl⟩
  · refine x_il rfl rfl ?_
    refine x_go rfl ?_
    refine x_reti rfl (Nat.le_of_ble_eq_true rfl) (Nat.le_of_ble_eq_true rfl) rfl ?_
    exact ⟨by unfold tX; rw [if_pos c], rfl⟩
theorem m_isBetween {g : aG} {d : Nat} {w : aW} {x y z : Int32} (hn : w.1 = N0) : Ev g (d + 2) 226 [.int x, .int y, .int z] w (RetQ (bI (decide ((if y ≤ z then y else z) ≤ x ∧ x ≤ (if z ≤ y then y else z)))) w) noX := by
  refine ev_X11_isBetween ?_ (Nat.le_of_ble_eq_true rfl)
  refine x_il rfl rfl ?_
  refine x_il rfl rfl ?_
  refine x_il rfl rfl ?_
  refine x_call2 m_min rfl (Nat.le_of_ble_eq_true rfl) (Or.inl hn) trivial (Nat.le_of_ble_eq_true rfl) (Nat.le_of_ble_eq_true rfl) (fun E w' hq => hq.elim) ?_
  rintro v9 w' ⟨rfl, rfl⟩
  refine x_iclt rfl (fun c => ?_) (fun c => ?_)
  · refine x_c rfl ?_
    refine x_retz rfl (Nat.le_of_ble_eq_true rfl) (Nat.le_of_ble_eq_true rfl) rfl (by first | rfl | assumption) ?_
    exact ⟨by rw [bI_f (fun h => absurd c (Int32.not_lt.mpr h.1))], rfl⟩
  refine x_il rfl rfl ?_
  refine x_il rfl rfl ?_
  refine x_il rfl rfl ?_
  refine x_call2 m_max rfl (Nat.le_of_ble_eq_true rfl) (Or.inl hn) trivial (Nat.le_of_ble_eq_true rfl) (Nat.le_of_ble_eq_true rfl) (fun E w' hq => hq.elim) ?_
  rintro v9 w' ⟨rfl, rfl⟩
  refine x_icgt rfl (fun c2 => ?_) (fun c2 => ?_)
  · refine x_c rfl ?_
    refine x_retz rfl (Nat.le_of_ble_eq_true rfl) (Nat.le_of_ble_eq_true rfl) rfl (by first | rfl | assumption) ?_
    exact ⟨by rw [bI_f (fun h => absurd c2 (Int32.not_lt.mpr h.2))], rfl⟩
  refine x_c rfl ?_
  refine x_go rfl ?_
  refine x_retz rfl (Nat.le_of_ble_eq_true rfl) (Nat.le_of_ble_eq_true rfl) rfl (by first | rfl | assumption) ?_
  exact ⟨by rw [bI_t ⟨Int32.not_lt.mp c, Int32.not_lt.mp c2⟩], rfl⟩
def alX (k : Int32) : Int32 := if k ≤ 3 then 0 else if k ≤ 4 then k else if k ≤ 6 then 3 else 8 - k
