/-! Table, the rest -/
theorem m_put {g : aG} {d : Nat} {w : aW} {q qn most width rows r c : Nat} {num : Nat → Int32} {v : Int32} (h : TabAt w q qn most width rows num) (hr : r < rows) (hc : c < width) (hn : w.1 = N0) :
    Ev g (d + 2) 89 [.ref q, .int (nI r), .int (nI c), .int v] w (VoidQ (aUp w qn (.inl (0, most * width, .inl (upd num (r * width + c) v))))) noX := by
  obtain ⟨h1, h2, h3, h4, h5, h6⟩ := h
  have hix := tab_ix h3 hr hc
  refine ev_X8_put ?_ (Nat.le_of_ble_eq_true rfl)
  refine x_al rfl rfl ?_
  refine x_il rfl rfl ?_
  refine x_il rfl rfl ?_
  refine x_call3 (m_hasCell h1) rfl (Nat.le_of_ble_eq_true rfl) (Or.inl hn) (rcv_at h1 (by decide) (by decide)) (Nat.le_of_ble_eq_true rfl) (Nat.le_of_ble_eq_true rfl) (fun E w' hq => hq.elim) ?_
  rintro v9 w' ⟨rfl, rfl⟩
  have hw : width < 2 ^ 31 := by
    have : width ≤ most * width := Nat.le_mul_of_pos_left _ (by omega)
    omega
  rw [decide_eq_true ⟨nI_pos' (by omega), nI_lt hr (by omega), nI_pos' (by omega), nI_lt hc hw⟩]
  refine x_ifeq rfl (fun c => absurd c (by decide)) (fun c => ?_)
  refine x_al rfl rfl ?_
  refine x_get rfl (by repeat (first | assumption | exact aAt_self (by repeat (first | assumption | exact aAt_self (by assumption) | refine aAt_ne (by first | decide | omega) ?_)) | refine aAt_ne (by first | decide | omega) ?_)) (by exact rfl) ?_
  refine x_il rfl rfl ?_
  refine x_al rfl rfl ?_
  refine x_get rfl (by repeat (first | assumption | exact aAt_self (by repeat (first | assumption | exact aAt_self (by assumption) | refine aAt_ne (by first | decide | omega) ?_)) | refine aAt_ne (by first | decide | omega) ?_)) (by exact rfl) ?_
  refine x_mul rfl ?_
  refine x_il rfl rfl ?_
  refine x_add rfl ?_
  rw [pk_mul, nI_add]
  refine x_il rfl rfl ?_
  refine x_iasN rfl h2 (by omega) ?_
  refine x_retv rfl (Nat.le_of_ble_eq_true rfl) (Nat.le_of_ble_eq_true rfl) rfl ?_
  exact ⟨rfl, rfl⟩
theorem m_open {g : aG} {d : Nat} {w : aW} {q qn most width rows : Nat} {num : Nat → Int32} (h : TabAt w q qn most width rows num) (hn : w.1 = N0) :
    Ev g (d + 2) 86 [.ref q] w (fun v w' => if most ≤ rows then v = some (.int (-1)) ∧ w' = w else v = some (.int (nI rows)) ∧ w' = aUp w q (.inr (8, [.int (nI most), .int (nI width), .ref qn, .int (nI (rows + 1))]))) noX := by
  obtain ⟨h1, h2, h3, h4, h5, h6⟩ := h
  refine ev_X8_open ?_ (Nat.le_of_ble_eq_true rfl)
  refine x_al rfl rfl ?_
  refine x_call1 (m_isFull h1 h6 (by omega)) rfl (Nat.le_of_ble_eq_true rfl) (Or.inl hn) (rcv_at h1 (by decide) (by decide)) (Nat.le_of_ble_eq_true rfl) (Nat.le_of_ble_eq_true rfl) (fun E w' hq => hq.elim) ?_
  rintro v9 w' ⟨rfl, rfl⟩
  by_cases hm : most ≤ rows
  · rw [decide_eq_true hm]
    refine x_ifeq rfl (fun c => absurd c (by decide)) (fun c => ?_)
    refine x_c rfl ?_
    refine x_reti rfl (Nat.le_of_ble_eq_true rfl) (Nat.le_of_ble_eq_true rfl) rfl ?_
    rw [if_pos hm]
    exact ⟨rfl, rfl⟩
  · rw [decide_eq_false hm]
    refine x_ifeq rfl (fun c => ?_) (fun c => absurd rfl c)
    refine x_al rfl rfl ?_
    refine x_dup rfl rfl ?_
    refine x_get rfl (by repeat (first | assumption | exact aAt_self (by repeat (first | assumption | exact aAt_self (by assumption) | refine aAt_ne (by first | decide | omega) ?_)) | refine aAt_ne (by first | decide | omega) ?_)) (by exact rfl) ?_
    refine x_c rfl ?_
    refine x_add rfl ?_
    rw [show nI rows + 1 = nI (rows + 1) from nI_add rows 1]
    refine x_put rfl (by repeat (first | assumption | exact aAt_self (by repeat (first | assumption | exact aAt_self (by assumption) | refine aAt_ne (by first | decide | omega) ?_)) | refine aAt_ne (by first | decide | omega) ?_)) (by exact Nat.le_of_ble_eq_true rfl) (by exact rfl) (by exact rfl) (by first | (dsimp only [List.set_cons_succ, List.set_cons_zero]; done) | exact rfl) ?_
    refine x_al rfl rfl ?_
    refine x_get rfl (by repeat (first | assumption | exact aAt_self (by repeat (first | assumption | exact aAt_self (by assumption) | refine aAt_ne (by first | decide | omega) ?_)) | refine aAt_ne (by first | decide | omega) ?_)) (by exact rfl) ?_
    refine x_c rfl ?_
    refine x_sub rfl ?_
    rw [show nI (rows + 1) - 1 = nI rows from nI_pred rows]
    refine x_reti rfl (Nat.le_of_ble_eq_true rfl) (Nat.le_of_ble_eq_true rfl) rfl ?_
    rw [if_neg hm]
    exact ⟨rfl, rfl⟩
def cntT (num : Nat → Int32) (width c : Nat) (v : Int32) : Nat → Nat
  | 0 => 0
  | n + 1 => cntT num width c v n + (if num (n * width + c) = v then 1 else 0)
theorem cntT_le (num : Nat → Int32) (width c : Nat) (v : Int32) (n : Nat) : cntT num width c v n ≤ n := by
  induction n with
  | zero => exact Nat.le_refl _
  | succ n ih => unfold cntT; split <;> omega
theorem m_countOf {g : aG} {d : Nat} {w : aW} {q qn most width rows c : Nat} {num : Nat → Int32} {v : Int32} (h : TabAt w q qn most width rows num) (hc : c < width) (hn : w.1 = N0) :
    Ev g (d + 3) 90 [.ref q, .int (nI c), .int v] w (RetQ (nI (cntT num width c v rows)) w) noX := by
  have hT := h
  obtain ⟨h1, h2, h3, h4, h5, h6⟩ := h
  refine ev_X8_countOf ?_ (Nat.le_of_ble_eq_true rfl)
  refine x_c rfl ?_
  refine x_is rfl (Nat.le_of_ble_eq_true rfl) rfl ?_
  refine x_c rfl ?_
  refine x_is rfl (Nat.le_of_ble_eq_true rfl) rfl ?_
  have loop : ∀ k r, r + k = rows → EX g mbOf (Ev g (d + 2)) (infoOf 90) k_X8_countOf (RetQ (nI (cntT num width c v rows)) w) noX w.1 w 0 0 4 [some (.ref q), some (.int (nI c)), some (.int v), some (.int (nI (cntT num width c v r))), some (.int (nI r))] [] := by
    intro k
    induction k with
    | zero =>
      intro r hk
      refine x_il rfl rfl ?_
      refine x_al rfl rfl ?_
      refine x_get rfl (by repeat (first | assumption | exact aAt_self (by repeat (first | assumption | exact aAt_self (by assumption) | refine aAt_ne (by first | decide | omega) ?_)) | refine aAt_ne (by first | decide | omega) ?_)) (by exact rfl) ?_
      have : r = rows := by omega
      subst this
      refine x_icge rfl (fun c => ?_) (fun c => absurd (Int32.le_refl _) c)
      refine x_il rfl rfl ?_
      refine x_reti rfl (Nat.le_of_ble_eq_true rfl) (Nat.le_of_ble_eq_true rfl) rfl ?_
      exact ⟨rfl, rfl⟩
    | succ k ih =>
      intro r hk
      refine x_il rfl rfl ?_
      refine x_al rfl rfl ?_
      refine x_get rfl (by repeat (first | assumption | exact aAt_self (by repeat (first | assumption | exact aAt_self (by assumption) | refine aAt_ne (by first | decide | omega) ?_)) | refine aAt_ne (by first | decide | omega) ?_)) (by exact rfl) ?_
      refine x_icge rfl (fun c => absurd (nI_lt (show r < rows by omega) (by omega)) (Int32.not_lt.mpr c)) (fun c9 => ?_)
      refine x_al rfl rfl ?_
      refine x_il rfl rfl ?_
      refine x_il rfl rfl ?_
      refine x_call3 (m_at hT (show r < rows by omega) hc hn) rfl (Nat.le_of_ble_eq_true rfl) (Or.inl hn) (rcv_at h1 (by decide) (by decide)) (Nat.le_of_ble_eq_true rfl) (Nat.le_of_ble_eq_true rfl) (fun E w' hq => hq.elim) ?_
      rintro v9 w' ⟨rfl, rfl⟩
      refine x_il rfl rfl ?_
      have hx := ih (r + 1) (by omega)
      rw [show cntT num width c v (r + 1) = cntT num width c v r + (if num (r * width + c) = v then 1 else 0) from rfl] at hx
      refine x_icne rfl (fun c => ?_) (fun c => ?_)
      · refine x_inc rfl rfl rfl ?_
        refine x_go rfl ?_
        rw [if_neg c] at hx
        rw [show nI r + 1 = nI (r + 1) from nI_add r 1]
        exact hx
      · refine x_inc rfl rfl rfl ?_
        refine x_inc rfl rfl rfl ?_
        refine x_go rfl ?_
        rw [if_pos c] at hx
        rw [show nI r + 1 = nI (r + 1) from nI_add r 1, show nI (cntT num width _ v r) + 1 = nI (cntT num width _ v r + 1) from nI_add _ 1]
        exact hx
  exact loop rows 0 (by omega)
