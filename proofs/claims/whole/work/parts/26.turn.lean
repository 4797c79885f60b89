/-! the reference: turned places, a cell around another, the tape's blanks -/
def tX (t x y : Int32) : Int32 := if t = 0 then x else if t = 1 then 63 - y else if t = 2 then 63 - x else y
theorem m_turnedX {g : aG} {d : Nat} {w : aW} {t x y : Int32} : Ev g (d + 1) 221 [.int t, .int x, .int y] w (RetQ (tX t x y) w) noX := by
  refine ev_X11_turnedX ?_ (Nat.le_of_ble_eq_true rfl)
  refine x_il rfl rfl ?_
  refine x_ifne rfl (fun c => ?_) (fun c => ?_)
  · refine x_il rfl rfl ?_
    refine x_c rfl ?_
    refine x_icne rfl (fun c2 => ?_) (fun c2 => ?_)
    · refine x_il rfl rfl ?_
      refine x_c rfl ?_
      refine x_icne rfl (fun c3 => ?_) (fun c3 => ?_)
      · refine x_il rfl rfl ?_
        refine x_reti rfl (Nat.le_of_ble_eq_true rfl) (Nat.le_of_ble_eq_true rfl) rfl ?_
        exact ⟨by unfold tX; rw [if_neg c, if_neg c2, if_neg c3], rfl⟩
      · refine x_c rfl ?_
        refine x_il rfl rfl ?_
        refine x_sub rfl ?_
        refine x_go rfl ?_
        refine x_reti rfl (Nat.le_of_ble_eq_true rfl) (Nat.le_of_ble_eq_true rfl) rfl ?_
        exact ⟨by unfold tX; rw [if_neg c, if_neg c2, if_pos c3], rfl⟩
    · refine x_c rfl ?_
      refine x_il rfl rfl ?_
      refine x_sub rfl ?_
      refine x_go rfl ?_
      refine x_reti rfl (Nat.le_of_ble_eq_true rfl) (Nat.le_of_ble_eq_true rfl) rfl ?_
      exact ⟨by unfold tX; rw [if_neg c, if_pos c2], rfl⟩
  · refine x_il rfl rfl ?_
    refine x_go rfl ?_
    refine x_reti rfl (Nat.le_of_ble_eq_true rfl) (Nat.le_of_ble_eq_true rfl) rfl ?_
    exact ⟨by unfold tX; rw [if_pos c], rfl⟩
theorem m_isBetween {g : aG} {d : Nat} {w : aW} {x y z : Int32} (hn : w.1 = N0) : Ev g (d + 2) 226 [.int x, .int y, .int z] w (RetQ (bI (decide ((if y ≤ z then y else z) ≤ x ∧ x ≤ (if z ≤ y then y else z)))) w) noX := by
  refine ev_X11_isBetween ?_ (Nat.le_of_ble_eq_true rfl)
  refine x_il rfl rfl ?_
  refine x_il rfl rfl ?_
  refine x_il rfl rfl ?_
  refine x_call2 m_min rfl (Nat.le_of_ble_eq_true rfl) (Or.inl hn) trivial (Nat.le_of_ble_eq_true rfl) (Nat.le_of_ble_eq_true rfl) (fun E w' hq => hq.elim) ?_
  rintro v9 w' ⟨rfl, rfl⟩
  refine x_iclt rfl (fun c => ?_) (fun c => ?_)
  · refine x_c rfl ?_
    refine x_retz rfl (Nat.le_of_ble_eq_true rfl) (Nat.le_of_ble_eq_true rfl) rfl (by first | rfl | assumption) ?_
    exact ⟨by rw [bI_f (fun h => absurd c (Int32.not_lt.mpr h.1))], rfl⟩
  refine x_il rfl rfl ?_
  refine x_il rfl rfl ?_
  refine x_il rfl rfl ?_
  refine x_call2 m_max rfl (Nat.le_of_ble_eq_true rfl) (Or.inl hn) trivial (Nat.le_of_ble_eq_true rfl) (Nat.le_of_ble_eq_true rfl) (fun E w' hq => hq.elim) ?_
  rintro v9 w' ⟨rfl, rfl⟩
  refine x_icgt rfl (fun c2 => ?_) (fun c2 => ?_)
  · refine x_c rfl ?_
    refine x_retz rfl (Nat.le_of_ble_eq_true rfl) (Nat.le_of_ble_eq_true rfl) rfl (by first | rfl | assumption) ?_
    exact ⟨by rw [bI_f (fun h => absurd c2 (Int32.not_lt.mpr h.2))], rfl⟩
  refine x_c rfl ?_
  refine x_go rfl ?_
  refine x_retz rfl (Nat.le_of_ble_eq_true rfl) (Nat.le_of_ble_eq_true rfl) rfl (by first | rfl | assumption) ?_
  exact ⟨by rw [bI_t ⟨Int32.not_lt.mp c, Int32.not_lt.mp c2⟩], rfl⟩
def alX (k : Int32) : Int32 := if k ≤ 3 then 0 else if k ≤ 4 then k else if k ≤ 6 then 3 else 8 - k
def tY (t x y : Int32) : Int32 := if t = 0 then y else if t = 1 then x else if t = 2 then 63 - y else 63 - x
theorem m_turnedY {g : aG} {d : Nat} {w : aW} {t x y : Int32} : Ev g (d + 1) 222 [.int t, .int x, .int y] w (RetQ (tY t x y) w) noX := by
  refine ev_X11_turnedY ?_ (Nat.le_of_ble_eq_true rfl)
  refine x_il rfl rfl ?_
  refine x_ifne rfl (fun c => ?_) (fun c => ?_)
  · refine x_il rfl rfl ?_
    refine x_c rfl ?_
    refine x_icne rfl (fun c2 => ?_) (fun c2 => ?_)
    · refine x_il rfl rfl ?_
      refine x_c rfl ?_
      refine x_icne rfl (fun c3 => ?_) (fun c3 => ?_)
      · refine x_c rfl ?_
        refine x_il rfl rfl ?_
        refine x_sub rfl ?_
        refine x_reti rfl (Nat.le_of_ble_eq_true rfl) (Nat.le_of_ble_eq_true rfl) rfl ?_
        exact ⟨by unfold tY; rw [if_neg c, if_neg c2, if_neg c3], rfl⟩
      · refine x_c rfl ?_
        refine x_il rfl rfl ?_
        refine x_sub rfl ?_
        refine x_go rfl ?_
        refine x_reti rfl (Nat.le_of_ble_eq_true rfl) (Nat.le_of_ble_eq_true rfl) rfl ?_
        exact ⟨by unfold tY; rw [if_neg c, if_neg c2, if_pos c3], rfl⟩
    · refine x_il rfl rfl ?_
      refine x_go rfl ?_
      refine x_reti rfl (Nat.le_of_ble_eq_true rfl) (Nat.le_of_ble_eq_true rfl) rfl ?_
      exact ⟨by unfold tY; rw [if_neg c, if_pos c2], rfl⟩
  · refine x_il rfl rfl ?_
    refine x_go rfl ?_
    refine x_reti rfl (Nat.le_of_ble_eq_true rfl) (Nat.le_of_ble_eq_true rfl) rfl ?_
    exact ⟨by unfold tY; rw [if_pos c], rfl⟩
/-- the cells around a place, by turns -/
def arX (x k : Nat) : Nat := if k = 0 ∨ k = 3 then x - 1 else x
def arY (y k : Nat) : Nat := if k < 2 then y - 1 else y
theorem m_around {g : aG} {d : Nat} {w : aW} {a : Nat → Value} {f : Nat → Int32} {p x y k : Nat} (h : MdAt w a f) (hp : p < 60) (hx : 1 ≤ x ∧ x < 8) (hy : 1 ≤ y ∧ y < 8) (hk : k < 4) (hn : w.1 = N0) : Ev g (d + 3) 201 [.ref 1424, .int (nI p), .int (nI x), .int (nI y), .int (nI k)] w (RetQ (f (5 + 97 * p + 8 * arY y k + arX x k)) w) noX := by
  obtain ⟨x, rfl⟩ : ∃ x9, x = x9 + 1 := ⟨x - 1, by omega⟩
  obtain ⟨y, rfl⟩ : ∃ y9, y = y9 + 1 := ⟨y - 1, by omega⟩
  rcases (show k = 0 ∨ k = 1 ∨ k = 2 ∨ k = 3 by omega) with rfl | rfl | rfl | rfl
  · refine ev_X11_around ?_ (Nat.le_of_ble_eq_true rfl)
    refine x_al rfl rfl ?_
    refine x_il rfl rfl ?_
    refine x_il rfl rfl ?_
    refine x_ifeq rfl (fun c => ?_) (fun c => absurd rfl c)
    refine x_il rfl rfl ?_
    refine x_c rfl ?_
    refine x_sub rfl ?_
    rw [show nI (x + 1) - 1 = nI x from nI_pred x]
    refine x_go rfl ?_
    refine x_il rfl rfl ?_
    refine x_c rfl ?_
    refine x_icge rfl (fun c => absurd c (by decide)) (fun c => ?_)
    refine x_il rfl rfl ?_
    refine x_c rfl ?_
    refine x_sub rfl ?_
    rw [show nI (y + 1) - 1 = nI y from nI_pred y]
    refine x_go rfl ?_
    refine x_call4 (m_cellOf h (by omega) hn) rfl (Nat.le_of_ble_eq_true rfl) (Or.inl hn) (rcv_at h.1 (by decide) (by decide)) (Nat.le_of_ble_eq_true rfl) (Nat.le_of_ble_eq_true rfl) (fun E w' hq => hq.elim) ?_
    rintro v9 w' ⟨rfl, rfl⟩
    refine x_reti rfl (Nat.le_of_ble_eq_true rfl) (Nat.le_of_ble_eq_true rfl) rfl ?_
    exact ⟨rfl, rfl⟩
  · refine ev_X11_around ?_ (Nat.le_of_ble_eq_true rfl)
    refine x_al rfl rfl ?_
    refine x_il rfl rfl ?_
    refine x_il rfl rfl ?_
    refine x_ifeq rfl (fun c => absurd c (by decide)) (fun c => ?_)
    refine x_il rfl rfl ?_
    refine x_c rfl ?_
    refine x_icne rfl (fun c => ?_) (fun c => absurd c (by decide))
    refine x_il rfl rfl ?_
    refine x_il rfl rfl ?_
    refine x_c rfl ?_
    refine x_icge rfl (fun c => absurd c (by decide)) (fun c => ?_)
    refine x_il rfl rfl ?_
    refine x_c rfl ?_
    refine x_sub rfl ?_
    rw [show nI (y + 1) - 1 = nI y from nI_pred y]
    refine x_go rfl ?_
    refine x_call4 (m_cellOf h (by omega) hn) rfl (Nat.le_of_ble_eq_true rfl) (Or.inl hn) (rcv_at h.1 (by decide) (by decide)) (Nat.le_of_ble_eq_true rfl) (Nat.le_of_ble_eq_true rfl) (fun E w' hq => hq.elim) ?_
    rintro v9 w' ⟨rfl, rfl⟩
    refine x_reti rfl (Nat.le_of_ble_eq_true rfl) (Nat.le_of_ble_eq_true rfl) rfl ?_
    exact ⟨rfl, rfl⟩
  · refine ev_X11_around ?_ (Nat.le_of_ble_eq_true rfl)
    refine x_al rfl rfl ?_
    refine x_il rfl rfl ?_
    refine x_il rfl rfl ?_
    refine x_ifeq rfl (fun c => absurd c (by decide)) (fun c => ?_)
    refine x_il rfl rfl ?_
    refine x_c rfl ?_
    refine x_icne rfl (fun c => ?_) (fun c => absurd c (by decide))
    refine x_il rfl rfl ?_
    refine x_il rfl rfl ?_
    refine x_c rfl ?_
    refine x_icge rfl (fun c => ?_) (fun c => absurd (by decide) c)
    refine x_il rfl rfl ?_
    refine x_call4 (m_cellOf h (by omega) hn) rfl (Nat.le_of_ble_eq_true rfl) (Or.inl hn) (rcv_at h.1 (by decide) (by decide)) (Nat.le_of_ble_eq_true rfl) (Nat.le_of_ble_eq_true rfl) (fun E w' hq => hq.elim) ?_
    rintro v9 w' ⟨rfl, rfl⟩
    refine x_reti rfl (Nat.le_of_ble_eq_true rfl) (Nat.le_of_ble_eq_true rfl) rfl ?_
    exact ⟨rfl, rfl⟩
  · refine ev_X11_around ?_ (Nat.le_of_ble_eq_true rfl)
    refine x_al rfl rfl ?_
    refine x_il rfl rfl ?_
    refine x_il rfl rfl ?_
    refine x_ifeq rfl (fun c => absurd c (by decide)) (fun c => ?_)
    refine x_il rfl rfl ?_
    refine x_c rfl ?_
    refine x_icne rfl (fun c => absurd rfl c) (fun c => ?_)
    refine x_il rfl rfl ?_
    refine x_c rfl ?_
    refine x_sub rfl ?_
    rw [show nI (x + 1) - 1 = nI x from nI_pred x]
    refine x_go rfl ?_
    refine x_il rfl rfl ?_
    refine x_c rfl ?_
    refine x_icge rfl (fun c => ?_) (fun c => absurd (by decide) c)
    refine x_il rfl rfl ?_
    refine x_call4 (m_cellOf h (by omega) hn) rfl (Nat.le_of_ble_eq_true rfl) (Or.inl hn) (rcv_at h.1 (by decide) (by decide)) (Nat.le_of_ble_eq_true rfl) (Nat.le_of_ble_eq_true rfl) (fun E w' hq => hq.elim) ?_
    rintro v9 w' ⟨rfl, rfl⟩
    refine x_reti rfl (Nat.le_of_ble_eq_true rfl) (Nat.le_of_ble_eq_true rfl) rfl ?_
    exact ⟨rfl, rfl⟩
