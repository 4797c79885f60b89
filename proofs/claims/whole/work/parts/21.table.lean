/-! Table -/
def bI (b : Bool) : Int32 := if b then 1 else 0
def RetQ (r : Int32) (w : aW) : Option Value → aW → Prop := fun v w' => v = some (.int r) ∧ w' = w
def VoidQ (w : aW) : Option Value → aW → Prop := fun v w' => v = none ∧ w' = w
theorem m_isFull {g : aG} {d : Nat} {w : aW} {q most rows : Nat} {a b : Value} (h : aAt w q (.inr (8, [.int (nI most), a, b, .int (nI rows)]))) (hm : most < 2 ^ 31) (hr : rows < 2 ^ 31) :
    Ev g (d + 1) 85 [.ref q] w (RetQ (bI (decide (most ≤ rows))) w) noX := by
  refine ev_X8_isFull ?_ (Nat.le_of_ble_eq_true rfl)
  refine x_al rfl rfl ?_
  refine x_get rfl (by repeat (first | assumption | exact aAt_self (by repeat (first | assumption | exact aAt_self (by assumption) | refine aAt_ne (by first | decide | omega) ?_)) | refine aAt_ne (by first | decide | omega) ?_)) (by exact rfl) ?_
  refine x_al rfl rfl ?_
  refine x_get rfl (by repeat (first | assumption | exact aAt_self (by repeat (first | assumption | exact aAt_self (by assumption) | refine aAt_ne (by first | decide | omega) ?_)) | refine aAt_ne (by first | decide | omega) ?_)) (by exact rfl) ?_
  refine x_iclt rfl (fun c => ?_) (fun c => ?_)
  · refine x_c rfl ?_
    refine x_retz rfl (Nat.le_of_ble_eq_true rfl) (Nat.le_of_ble_eq_true rfl) rfl (by first | rfl | assumption) ?_
    rw [nI_ltI hr hm] at c
    exact ⟨by rw [show decide (most ≤ rows) = false from decide_eq_false (by omega)]; rfl, rfl⟩
  · refine x_c rfl ?_
    refine x_go rfl ?_
    refine x_retz rfl (Nat.le_of_ble_eq_true rfl) (Nat.le_of_ble_eq_true rfl) rfl (by first | rfl | assumption) ?_
    rw [nI_ltI hr hm] at c
    exact ⟨by rw [show decide (most ≤ rows) = true from decide_eq_true (by omega)]; rfl, rfl⟩
theorem m_hasCell {g : aG} {d : Nat} {w : aW} {q width rows : Nat} {a b : Value} {x y : Int32} (h : aAt w q (.inr (8, [a, .int (nI width), b, .int (nI rows)]))) :
    Ev g (d + 1) 87 [.ref q, .int x, .int y] w (RetQ (bI (decide (0 ≤ x ∧ x < nI rows ∧ 0 ≤ y ∧ y < nI width))) w) noX := by
  refine ev_X8_hasCell ?_ (Nat.le_of_ble_eq_true rfl)
  refine x_il rfl rfl ?_
  refine x_iflt rfl (fun c => ?_) (fun c => ?_)
  · refine x_c rfl ?_
    refine x_retz rfl (Nat.le_of_ble_eq_true rfl) (Nat.le_of_ble_eq_true rfl) rfl (by first | rfl | assumption) ?_
    exact ⟨by rw [decide_eq_false (fun h => absurd c (Int32.not_lt.mpr h.1))]; rfl, rfl⟩
  refine x_il rfl rfl ?_
  refine x_al rfl rfl ?_
  refine x_get rfl (by repeat (first | assumption | exact aAt_self (by repeat (first | assumption | exact aAt_self (by assumption) | refine aAt_ne (by first | decide | omega) ?_)) | refine aAt_ne (by first | decide | omega) ?_)) (by exact rfl) ?_
  refine x_icge rfl (fun c2 => ?_) (fun c2 => ?_)
  · refine x_c rfl ?_
    refine x_retz rfl (Nat.le_of_ble_eq_true rfl) (Nat.le_of_ble_eq_true rfl) rfl (by first | rfl | assumption) ?_
    exact ⟨by rw [decide_eq_false (fun h => absurd h.2.1 (Int32.not_lt.mpr c2))]; rfl, rfl⟩
  refine x_il rfl rfl ?_
  refine x_iflt rfl (fun c3 => ?_) (fun c3 => ?_)
  · refine x_c rfl ?_
    refine x_retz rfl (Nat.le_of_ble_eq_true rfl) (Nat.le_of_ble_eq_true rfl) rfl (by first | rfl | assumption) ?_
    exact ⟨by rw [decide_eq_false (fun h => absurd c3 (Int32.not_lt.mpr h.2.2.1))]; rfl, rfl⟩
  refine x_il rfl rfl ?_
  refine x_al rfl rfl ?_
  refine x_get rfl (by repeat (first | assumption | exact aAt_self (by repeat (first | assumption | exact aAt_self (by assumption) | refine aAt_ne (by first | decide | omega) ?_)) | refine aAt_ne (by first | decide | omega) ?_)) (by exact rfl) ?_
  refine x_icge rfl (fun c4 => ?_) (fun c4 => ?_)
  · refine x_c rfl ?_
    refine x_retz rfl (Nat.le_of_ble_eq_true rfl) (Nat.le_of_ble_eq_true rfl) rfl (by first | rfl | assumption) ?_
    exact ⟨by rw [decide_eq_false (fun h => absurd h.2.2.2 (Int32.not_lt.mpr c4))]; rfl, rfl⟩
  refine x_c rfl ?_
  refine x_go rfl ?_
  refine x_retz rfl (Nat.le_of_ble_eq_true rfl) (Nat.le_of_ble_eq_true rfl) rfl (by first | rfl | assumption) ?_
  exact ⟨by rw [decide_eq_true ⟨Int32.not_lt.mp c, Int32.not_le.mp c2, Int32.not_lt.mp c3, Int32.not_le.mp c4⟩]; rfl, rfl⟩
/-- a table: at q, its numbers at qn -/
def TabAt (w : aW) (q qn most width rows : Nat) (num : Nat → Int32) : Prop := aAt w q (.inr (8, [.int (nI most), .int (nI width), .ref qn, .int (nI rows)])) ∧ aAt w qn (.inl (0, most * width, .inl num)) ∧ rows ≤ most ∧ most * width < 2 ^ 31 ∧ q ≠ qn ∧ most < 2 ^ 31
theorem tab_ix {most width rows r c : Nat} (h : rows ≤ most) (hr : r < rows) (hc : c < width) : r * width + c < most * width := by
  have h1 : (r + 1) * width ≤ most * width := Nat.mul_le_mul_right _ (by omega)
  have h2 : (r + 1) * width = r * width + width := Nat.succ_mul r width
  omega
theorem m_at {g : aG} {d : Nat} {w : aW} {q qn most width rows r c : Nat} {num : Nat → Int32} (h : TabAt w q qn most width rows num) (hr : r < rows) (hc : c < width) (hn : w.1 = N0) :
    Ev g (d + 2) 88 [.ref q, .int (nI r), .int (nI c)] w (RetQ (num (r * width + c)) w) noX := by
  obtain ⟨h1, h2, h3, h4, h5, h6⟩ := h
  have hix := tab_ix h3 hr hc
  refine ev_X8_at ?_ (Nat.le_of_ble_eq_true rfl)
  refine x_al rfl rfl ?_
  refine x_il rfl rfl ?_
  refine x_il rfl rfl ?_
  refine x_call3 (m_hasCell h1) rfl (Nat.le_of_ble_eq_true rfl) (Or.inl hn) (rcv_at h1 (by decide) (by decide)) (Nat.le_of_ble_eq_true rfl) (Nat.le_of_ble_eq_true rfl) (fun E w' hq => hq.elim) ?_
  rintro v w' ⟨rfl, rfl⟩
  have hw : width < 2 ^ 31 := by
    have : width ≤ most * width := Nat.le_mul_of_pos_left _ (by omega)
    omega
  rw [decide_eq_true ⟨nI_pos' (by omega), nI_lt hr (by omega), nI_pos' (by omega), nI_lt hc hw⟩]
  refine x_ifeq rfl (fun c => absurd c (by decide)) (fun c => ?_)
  refine x_al rfl rfl ?_
  refine x_get rfl (by repeat (first | assumption | exact aAt_self (by repeat (first | assumption | exact aAt_self (by assumption) | refine aAt_ne (by first | decide | omega) ?_)) | refine aAt_ne (by first | decide | omega) ?_)) (by exact rfl) ?_
  refine x_il rfl rfl ?_
  refine x_al rfl rfl ?_
  refine x_get rfl (by repeat (first | assumption | exact aAt_self (by repeat (first | assumption | exact aAt_self (by assumption) | refine aAt_ne (by first | decide | omega) ?_)) | refine aAt_ne (by first | decide | omega) ?_)) (by exact rfl) ?_
  refine x_mul rfl ?_
  refine x_il rfl rfl ?_
  refine x_add rfl ?_
  rw [pk_mul, nI_add]
  refine x_iaN rfl (by repeat (first | assumption | exact aAt_self (by repeat (first | assumption | exact aAt_self (by assumption) | refine aAt_ne (by first | decide | omega) ?_)) | refine aAt_ne (by first | decide | omega) ?_)) (by omega) ?_
  refine x_go rfl ?_
  refine x_reti rfl (Nat.le_of_ble_eq_true rfl) (Nat.le_of_ble_eq_true rfl) rfl ?_
  exact ⟨rfl, rfl⟩
