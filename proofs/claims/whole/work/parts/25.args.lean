/-! the reference: what is asked of arguments -/
theorem bI_t {p : Prop} [Decidable p] (h : p) : bI (decide p) = 1 := by rw [decide_eq_true h]; rfl
theorem bI_f {p : Prop} [Decidable p] (h : ¬ p) : bI (decide p) = 0 := by rw [decide_eq_false h]; rfl
theorem m_noPrint {g : aG} {d : Nat} {w : aW} {a : Nat → Value} {f : Nat → Int32} {x : Int32} (h : MdAt w a f) (hn : w.1 = N0) : Ev g (d + 2) 196 [.ref 1424, .int x] w (RetQ (bI (decide (¬ (0 ≤ x ∧ x ≤ f 4 - 1)))) w) noX := by
  obtain ⟨h1, h2, h3⟩ := h
  refine ev_X11_noPrint ?_ (Nat.le_of_ble_eq_true rfl)
  refine x_il rfl rfl ?_
  refine x_c rfl ?_
  refine x_al rfl rfl ?_
  refine x_get rfl (by repeat (first | assumption | exact aAt_self (by repeat (first | assumption | exact aAt_self (by assumption) | refine aAt_ne (by first | decide | omega) ?_)) | refine aAt_ne (by first | decide | omega) ?_)) (by exact rfl) ?_
  rw [h2]
  refine x_c rfl ?_
  refine x_iaN (j := 4) rfl h3 (by omega) ?_
  refine x_c rfl ?_
  refine x_sub rfl ?_
  refine x_call3 m_in rfl (Nat.le_of_ble_eq_true rfl) (Or.inl hn) trivial (Nat.le_of_ble_eq_true rfl) (Nat.le_of_ble_eq_true rfl) (fun E w' hq => hq.elim) ?_
  rintro v9 w' ⟨rfl, rfl⟩
  by_cases hc : 0 ≤ x ∧ x ≤ f 4 - 1
  · rw [bI_t hc]
    refine x_ifne rfl (fun c => ?_) (fun c => absurd c (by decide))
    refine x_c rfl ?_
    refine x_retz rfl (Nat.le_of_ble_eq_true rfl) (Nat.le_of_ble_eq_true rfl) rfl (by first | rfl | assumption) ?_
    exact ⟨by rw [bI_f (fun h => h hc)], rfl⟩
  · rw [bI_f hc]
    refine x_ifne rfl (fun c => absurd rfl c) (fun c => ?_)
    refine x_c rfl ?_
    refine x_go rfl ?_
    refine x_retz rfl (Nat.le_of_ble_eq_true rfl) (Nat.le_of_ble_eq_true rfl) rfl (by first | rfl | assumption) ?_
    exact ⟨by rw [bI_t hc], rfl⟩
theorem m_noMark {g : aG} {d : Nat} {w : aW} {a : Nat → Value} {f : Nat → Int32} {x : Int32} (h : MdAt w a f) (hn : w.1 = N0) : Ev g (d + 2) 217 [.ref 1424, .int x] w (RetQ (bI (decide (¬ (0 ≤ x ∧ x ≤ f 5825 - 1)))) w) noX := by
  obtain ⟨h1, h2, h3⟩ := h
  refine ev_X11_noMark ?_ (Nat.le_of_ble_eq_true rfl)
  refine x_il rfl rfl ?_
  refine x_c rfl ?_
  refine x_al rfl rfl ?_
  refine x_get rfl (by repeat (first | assumption | exact aAt_self (by repeat (first | assumption | exact aAt_self (by assumption) | refine aAt_ne (by first | decide | omega) ?_)) | refine aAt_ne (by first | decide | omega) ?_)) (by exact rfl) ?_
  rw [h2]
  refine x_c rfl ?_
  refine x_iaN (j := 5825) rfl h3 (by omega) ?_
  refine x_c rfl ?_
  refine x_sub rfl ?_
  refine x_call3 m_in rfl (Nat.le_of_ble_eq_true rfl) (Or.inl hn) trivial (Nat.le_of_ble_eq_true rfl) (Nat.le_of_ble_eq_true rfl) (fun E w' hq => hq.elim) ?_
  rintro v9 w' ⟨rfl, rfl⟩
  by_cases hc : 0 ≤ x ∧ x ≤ f 5825 - 1
  · rw [bI_t hc]
    refine x_ifne rfl (fun c => ?_) (fun c => absurd c (by decide))
    refine x_c rfl ?_
    refine x_retz rfl (Nat.le_of_ble_eq_true rfl) (Nat.le_of_ble_eq_true rfl) rfl (by first | rfl | assumption) ?_
    exact ⟨by rw [bI_f (fun h => h hc)], rfl⟩
  · rw [bI_f hc]
    refine x_ifne rfl (fun c => absurd rfl c) (fun c => ?_)
    refine x_c rfl ?_
    refine x_go rfl ?_
    refine x_retz rfl (Nat.le_of_ble_eq_true rfl) (Nat.le_of_ble_eq_true rfl) rfl (by first | rfl | assumption) ?_
    exact ⟨by rw [bI_t hc], rfl⟩
theorem m_noCard {g : aG} {d : Nat} {w : aW} {a : Nat → Value} {f : Nat → Int32} {x : Int32} (h : MdAt w a f) (hn : w.1 = N0) : Ev g (d + 2) 233 [.ref 1424, .int x] w (RetQ (bI (decide (¬ (0 ≤ x ∧ x ≤ f 6606 - 1)))) w) noX := by
  obtain ⟨h1, h2, h3⟩ := h
  refine ev_X11_noCard ?_ (Nat.le_of_ble_eq_true rfl)
  refine x_il rfl rfl ?_
  refine x_c rfl ?_
  refine x_al rfl rfl ?_
  refine x_get rfl (by repeat (first | assumption | exact aAt_self (by repeat (first | assumption | exact aAt_self (by assumption) | refine aAt_ne (by first | decide | omega) ?_)) | refine aAt_ne (by first | decide | omega) ?_)) (by exact rfl) ?_
  rw [h2]
  refine x_c rfl ?_
  refine x_iaN (j := 6606) rfl h3 (by omega) ?_
  refine x_c rfl ?_
  refine x_sub rfl ?_
  refine x_call3 m_in rfl (Nat.le_of_ble_eq_true rfl) (Or.inl hn) trivial (Nat.le_of_ble_eq_true rfl) (Nat.le_of_ble_eq_true rfl) (fun E w' hq => hq.elim) ?_
  rintro v9 w' ⟨rfl, rfl⟩
  by_cases hc : 0 ≤ x ∧ x ≤ f 6606 - 1
  · rw [bI_t hc]
    refine x_ifne rfl (fun c => ?_) (fun c => absurd c (by decide))
    refine x_c rfl ?_
    refine x_retz rfl (Nat.le_of_ble_eq_true rfl) (Nat.le_of_ble_eq_true rfl) rfl (by first | rfl | assumption) ?_
    exact ⟨by rw [bI_f (fun h => h hc)], rfl⟩
  · rw [bI_f hc]
    refine x_ifne rfl (fun c => absurd rfl c) (fun c => ?_)
    refine x_c rfl ?_
    refine x_go rfl ?_
    refine x_retz rfl (Nat.le_of_ble_eq_true rfl) (Nat.le_of_ble_eq_true rfl) rfl (by first | rfl | assumption) ?_
    exact ⟨by rw [bI_t hc], rfl⟩
theorem m_noFinger {g : aG} {d : Nat} {w : aW} {x : Int32} (hn : w.1 = N0) : Ev g (d + 2) 234 [.int x] w (RetQ (bI (decide (¬ (0 ≤ x ∧ x ≤ 9)))) w) noX := by
  refine ev_X11_noFinger ?_ (Nat.le_of_ble_eq_true rfl)
  refine x_il rfl rfl ?_
  refine x_c rfl ?_
  refine x_c rfl ?_
  refine x_call3 m_in rfl (Nat.le_of_ble_eq_true rfl) (Or.inl hn) trivial (Nat.le_of_ble_eq_true rfl) (Nat.le_of_ble_eq_true rfl) (fun E w' hq => hq.elim) ?_
  rintro v9 w' ⟨rfl, rfl⟩
  by_cases hc : 0 ≤ x ∧ x ≤ 9
  · rw [bI_t hc]
    refine x_ifne rfl (fun c => ?_) (fun c => absurd c (by decide))
    refine x_c rfl ?_
    refine x_retz rfl (Nat.le_of_ble_eq_true rfl) (Nat.le_of_ble_eq_true rfl) rfl (by first | rfl | assumption) ?_
    exact ⟨by rw [bI_f (fun h => h hc)], rfl⟩
  · rw [bI_f hc]
    refine x_ifne rfl (fun c => absurd rfl c) (fun c => ?_)
    refine x_c rfl ?_
    refine x_go rfl ?_
    refine x_retz rfl (Nat.le_of_ble_eq_true rfl) (Nat.le_of_ble_eq_true rfl) rfl (by first | rfl | assumption) ?_
    exact ⟨by rw [bI_t hc], rfl⟩
def udV (a : Nat → Value) (k : Nat) (v : Value) : Nat → Value := fun j => if j = k then v else a j
theorem m_throwsIf {g : aG} {d : Nat} {w : aW} {a : Nat → Value} {f : Nat → Int32} {b : Bool} {k : Int32} (h : MdAt w a f) : Ev g (d + 1) 178 [.ref 1424, .int (bI b), .int k] w (fun v w' => v = some (.int (bI b)) ∧ w' = if b then aUp w 1424 (.inr (11, mdL (udV a 0 (.int k)))) else w) noX := by
  obtain ⟨h1, h2, h3⟩ := h
  refine ev_X11_throwsIf ?_ (Nat.le_of_ble_eq_true rfl)
  refine x_il rfl rfl ?_
  cases b with
  | false =>
    refine x_ifeq rfl (fun c => ?_) (fun c => absurd rfl c)
    refine x_il rfl rfl ?_
    refine x_retz rfl (Nat.le_of_ble_eq_true rfl) (Nat.le_of_ble_eq_true rfl) rfl rfl ?_
    exact ⟨rfl, rfl⟩
  | true =>
    refine x_ifeq rfl (fun c => absurd c (by decide)) (fun c => ?_)
    refine x_al rfl rfl ?_
    refine x_il rfl rfl ?_
    refine x_put rfl h1 (by exact Nat.le_of_ble_eq_true rfl) (by exact rfl) (by exact rfl) (fs' := mdL (udV a 0 (.int k))) rfl ?_
    refine x_il rfl rfl ?_
    refine x_retz rfl (Nat.le_of_ble_eq_true rfl) (Nat.le_of_ble_eq_true rfl) rfl rfl ?_
    exact ⟨rfl, rfl⟩
