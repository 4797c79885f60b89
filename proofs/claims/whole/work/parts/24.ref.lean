/-! the reference: places in its world, and what is read there -/
def mdL (a : Nat → Value) : List Value := [a 0, a 1, a 2, a 3, a 4, a 5, a 6, a 7, a 8, a 9, a 10, a 11, a 12, a 13, a 14, a 15, a 16, a 17, a 18, a 19, a 20, a 21, a 22, a 23, a 24, a 25, a 26, a 27]
/-- the reference stands at 1424, its world at 1425 -/
def MdAt (w : aW) (a : Nat → Value) (f : Nat → Int32) : Prop := aAt w 1424 (.inr (11, mdL a)) ∧ a 1 = .ref 1425 ∧ aAt w 1425 (.inl (0, 22176, .inl f))
theorem m_in {g : aG} {d : Nat} {w : aW} {x y z : Int32} : Ev g (d + 1) 179 [.int x, .int y, .int z] w (RetQ (bI (decide (y ≤ x ∧ x ≤ z))) w) noX := by
  refine ev_X11_in ?_ (Nat.le_of_ble_eq_true rfl)
  refine x_il rfl rfl ?_
  refine x_il rfl rfl ?_
  refine x_iclt rfl (fun c => ?_) (fun c => ?_)
  · refine x_c rfl ?_
    refine x_retz rfl (Nat.le_of_ble_eq_true rfl) (Nat.le_of_ble_eq_true rfl) rfl (by first | rfl | assumption) ?_
    exact ⟨by rw [decide_eq_false (fun h => absurd c (Int32.not_lt.mpr h.1))]; rfl, rfl⟩
  refine x_il rfl rfl ?_
  refine x_il rfl rfl ?_
  refine x_icgt rfl (fun c2 => ?_) (fun c2 => ?_)
  · refine x_c rfl ?_
    refine x_retz rfl (Nat.le_of_ble_eq_true rfl) (Nat.le_of_ble_eq_true rfl) rfl (by first | rfl | assumption) ?_
    exact ⟨by rw [decide_eq_false (fun h => absurd c2 (Int32.not_lt.mpr h.2))]; rfl, rfl⟩
  refine x_c rfl ?_
  refine x_go rfl ?_
  refine x_retz rfl (Nat.le_of_ble_eq_true rfl) (Nat.le_of_ble_eq_true rfl) rfl (by first | rfl | assumption) ?_
  exact ⟨by rw [decide_eq_true ⟨Int32.not_lt.mp c, Int32.not_lt.mp c2⟩]; rfl, rfl⟩
theorem m_today {g : aG} {d : Nat} {w : aW} {a : Nat → Value} {f : Nat → Int32} (h : MdAt w a f) : Ev g (d + 1) 181 [.ref 1424] w (RetQ (f 0) w) noX := by
  obtain ⟨h1, h2, h3⟩ := h
  refine ev_X11_today ?_ (Nat.le_of_ble_eq_true rfl)
  refine x_al rfl rfl ?_
  refine x_get rfl (by repeat (first | assumption | exact aAt_self (by repeat (first | assumption | exact aAt_self (by assumption) | refine aAt_ne (by first | decide | omega) ?_)) | refine aAt_ne (by first | decide | omega) ?_)) (by exact rfl) ?_
  rw [h2]
  refine x_c rfl ?_
  refine x_iaN (j := 0) rfl h3 (by omega) ?_
  refine x_reti rfl (Nat.le_of_ble_eq_true rfl) (Nat.le_of_ble_eq_true rfl) rfl ?_
  exact ⟨rfl, rfl⟩
theorem m_printAt {g : aG} {d : Nat} {w : aW} {p : Nat} : Ev g (d + 1) 195 [.int (nI p)] w (RetQ (nI (5 + 97 * p)) w) noX := by
  refine ev_X11_printAt ?_ (Nat.le_of_ble_eq_true rfl)
  refine x_c rfl ?_
  refine x_c rfl ?_
  refine x_il rfl rfl ?_
  refine x_mul rfl ?_
  refine x_add rfl ?_
  refine x_reti rfl (Nat.le_of_ble_eq_true rfl) (Nat.le_of_ble_eq_true rfl) rfl ?_
  exact ⟨by rw [show (5 : Int32) + 97 * nI p = nI (5 + 97 * p) by show nI 5 + nI 97 * nI p = _; rw [pk_mul, nI_add]], rfl⟩
theorem m_textAt {g : aG} {d : Nat} {w : aW} {p : Nat} : Ev g (d + 1) 248 [.int (nI p)] w (RetQ (nI (12826 + 850 * p)) w) noX := by
  refine ev_X11_textAt ?_ (Nat.le_of_ble_eq_true rfl)
  refine x_c rfl ?_
  refine x_c rfl ?_
  refine x_il rfl rfl ?_
  refine x_mul rfl ?_
  refine x_add rfl ?_
  refine x_reti rfl (Nat.le_of_ble_eq_true rfl) (Nat.le_of_ble_eq_true rfl) rfl ?_
  exact ⟨by rw [show (12826 : Int32) + 850 * nI p = nI (12826 + 850 * p) by show nI 12826 + nI 850 * nI p = _; rw [pk_mul, nI_add]], rfl⟩
theorem m_markAt {g : aG} {d : Nat} {w : aW} {m k : Nat} : Ev g (d + 1) 216 [.int (nI m), .int (nI k)] w (RetQ (nI (5826 + 39 * m + k)) w) noX := by
  refine ev_X11_markAt ?_ (Nat.le_of_ble_eq_true rfl)
  refine x_c rfl ?_
  refine x_c rfl ?_
  refine x_il rfl rfl ?_
  refine x_mul rfl ?_
  refine x_add rfl ?_
  refine x_il rfl rfl ?_
  refine x_add rfl ?_
  refine x_reti rfl (Nat.le_of_ble_eq_true rfl) (Nat.le_of_ble_eq_true rfl) rfl ?_
  exact ⟨by rw [show (5826 : Int32) + 39 * nI m + nI k = nI (5826 + 39 * m + k) by show nI 5826 + nI 39 * nI m + nI k = _; rw [pk_mul, nI_add, nI_add]], rfl⟩
theorem m_cardAt {g : aG} {d : Nat} {w : aW} {m k : Nat} : Ev g (d + 1) 231 [.int (nI m), .int (nI k)] w (RetQ (nI (6607 + 26 * m + k)) w) noX := by
  refine ev_X11_cardAt ?_ (Nat.le_of_ble_eq_true rfl)
  refine x_c rfl ?_
  refine x_c rfl ?_
  refine x_il rfl rfl ?_
  refine x_mul rfl ?_
  refine x_add rfl ?_
  refine x_il rfl rfl ?_
  refine x_add rfl ?_
  refine x_reti rfl (Nat.le_of_ble_eq_true rfl) (Nat.le_of_ble_eq_true rfl) rfl ?_
  exact ⟨by rw [show (6607 : Int32) + 26 * nI m + nI k = nI (6607 + 26 * m + k) by show nI 6607 + nI 26 * nI m + nI k = _; rw [pk_mul, nI_add, nI_add]], rfl⟩
theorem m_comparedAt {g : aG} {d : Nat} {w : aW} {m c k : Nat} : Ev g (d + 1) 237 [.int (nI m), .int (nI c), .int (nI k)] w (RetQ (nI (7023 + 10 * (16 * m + c) + k)) w) noX := by
  refine ev_X11_comparedAt ?_ (Nat.le_of_ble_eq_true rfl)
  refine x_c rfl ?_
  refine x_c rfl ?_
  refine x_c rfl ?_
  refine x_il rfl rfl ?_
  refine x_mul rfl ?_
  refine x_il rfl rfl ?_
  refine x_add rfl ?_
  refine x_mul rfl ?_
  refine x_add rfl ?_
  refine x_il rfl rfl ?_
  refine x_add rfl ?_
  refine x_reti rfl (Nat.le_of_ble_eq_true rfl) (Nat.le_of_ble_eq_true rfl) rfl ?_
  exact ⟨by rw [show (7023 : Int32) + 10 * (16 * nI m + nI c) + nI k = nI (7023 + 10 * (16 * m + c) + k) by show nI 7023 + nI 10 * (nI 16 * nI m + nI c) + nI k = _; rw [pk_mul, nI_add, pk_mul, nI_add, nI_add]], rfl⟩
theorem m_ruleAt {g : aG} {d : Nat} {w : aW} {t k : Nat} (hn : w.1 = N0) : Ev g (d + 2) 249 [.int (nI t), .int (nI k)] w (RetQ (nI (12826 + 850 * t + 2 + 4 * k)) w) noX := by
  refine ev_X11_ruleAt ?_ (Nat.le_of_ble_eq_true rfl)
  refine x_il rfl rfl ?_
  refine x_call1 m_textAt rfl (Nat.le_of_ble_eq_true rfl) (Or.inl hn) trivial (Nat.le_of_ble_eq_true rfl) (Nat.le_of_ble_eq_true rfl) (fun E w' hq => hq.elim) ?_
  rintro v9 w' ⟨rfl, rfl⟩
  refine x_c rfl ?_
  refine x_add rfl ?_
  refine x_c rfl ?_
  refine x_il rfl rfl ?_
  refine x_mul rfl ?_
  refine x_add rfl ?_
  refine x_reti rfl (Nat.le_of_ble_eq_true rfl) (Nat.le_of_ble_eq_true rfl) rfl ?_
  exact ⟨by rw [show nI (12826 + 850 * t) + 2 + 4 * nI k = nI (12826 + 850 * t + 2 + 4 * k) by show nI (12826 + 850 * t) + nI 2 + nI 4 * nI k = _; rw [pk_mul, nI_add, nI_add]], rfl⟩
theorem m_of {g : aG} {d : Nat} {w : aW} {a : Nat → Value} {f : Nat → Int32} {c k : Nat} (h : MdAt w a f) (hc : 26 * c + k < 416) (hn : w.1 = N0) : Ev g (d + 2) 232 [.ref 1424, .int (nI c), .int (nI k)] w (RetQ (f (6607 + 26 * c + k)) w) noX := by
  obtain ⟨h1, h2, h3⟩ := h
  refine ev_X11_of ?_ (Nat.le_of_ble_eq_true rfl)
  refine x_al rfl rfl ?_
  refine x_get rfl (by repeat (first | assumption | exact aAt_self (by repeat (first | assumption | exact aAt_self (by assumption) | refine aAt_ne (by first | decide | omega) ?_)) | refine aAt_ne (by first | decide | omega) ?_)) (by exact rfl) ?_
  rw [h2]
  refine x_il rfl rfl ?_
  refine x_il rfl rfl ?_
  refine x_call2 m_cardAt rfl (Nat.le_of_ble_eq_true rfl) (Or.inl hn) trivial (Nat.le_of_ble_eq_true rfl) (Nat.le_of_ble_eq_true rfl) (fun E w' hq => hq.elim) ?_
  rintro v9 w' ⟨rfl, rfl⟩
  refine x_iaN rfl h3 (by omega) ?_
  refine x_reti rfl (Nat.le_of_ble_eq_true rfl) (Nat.le_of_ble_eq_true rfl) rfl ?_
  exact ⟨rfl, rfl⟩
theorem m_isFiled {g : aG} {d : Nat} {w : aW} {a : Nat → Value} {f : Nat → Int32} {c : Nat} (h : MdAt w a f) (hc : c < 16) (hn : w.1 = N0) : Ev g (d + 3) 235 [.ref 1424, .int (nI c)] w (RetQ (bI (decide (f (6607 + 26 * c + 2) < 0))) w) noX := by
  refine ev_X11_isFiled ?_ (Nat.le_of_ble_eq_true rfl)
  refine x_al rfl rfl ?_
  refine x_il rfl rfl ?_
  refine x_c rfl ?_
  refine x_call3 (m_of (k := 2) h (by omega) hn) rfl (Nat.le_of_ble_eq_true rfl) (Or.inl hn) (rcv_at h.1 (by decide) (by decide)) (Nat.le_of_ble_eq_true rfl) (Nat.le_of_ble_eq_true rfl) (fun E w' hq => hq.elim) ?_
  rintro v9 w' ⟨rfl, rfl⟩
  refine x_ifge rfl (fun c => ?_) (fun c => ?_)
  · refine x_c rfl ?_
    refine x_retz rfl (Nat.le_of_ble_eq_true rfl) (Nat.le_of_ble_eq_true rfl) rfl (by first | rfl | assumption) ?_
    exact ⟨by rw [decide_eq_false (Int32.not_lt.mpr c)]; rfl, rfl⟩
  · refine x_c rfl ?_
    refine x_go rfl ?_
    refine x_retz rfl (Nat.le_of_ble_eq_true rfl) (Nat.le_of_ble_eq_true rfl) rfl (by first | rfl | assumption) ?_
    exact ⟨by rw [decide_eq_true (Int32.not_le.mp c)]; rfl, rfl⟩
theorem m_cellOf {g : aG} {d : Nat} {w : aW} {a : Nat → Value} {f : Nat → Int32} {p x y : Nat} (h : MdAt w a f) (hc : 5 + 97 * p + 8 * y + x < 22176) (hn : w.1 = N0) : Ev g (d + 2) 200 [.ref 1424, .int (nI p), .int (nI x), .int (nI y)] w (RetQ (f (5 + 97 * p + 8 * y + x)) w) noX := by
  obtain ⟨h1, h2, h3⟩ := h
  refine ev_X11_cellOf ?_ (Nat.le_of_ble_eq_true rfl)
  refine x_al rfl rfl ?_
  refine x_get rfl (by repeat (first | assumption | exact aAt_self (by repeat (first | assumption | exact aAt_self (by assumption) | refine aAt_ne (by first | decide | omega) ?_)) | refine aAt_ne (by first | decide | omega) ?_)) (by exact rfl) ?_
  rw [h2]
  refine x_il rfl rfl ?_
  refine x_call1 m_printAt rfl (Nat.le_of_ble_eq_true rfl) (Or.inl hn) trivial (Nat.le_of_ble_eq_true rfl) (Nat.le_of_ble_eq_true rfl) (fun E w' hq => hq.elim) ?_
  rintro v9 w' ⟨rfl, rfl⟩
  refine x_c rfl ?_
  refine x_il rfl rfl ?_
  refine x_mul rfl ?_
  refine x_add rfl ?_
  refine x_il rfl rfl ?_
  refine x_add rfl ?_
  rw [show nI (5 + 97 * p) + 8 * nI y + nI x = nI (5 + 97 * p + 8 * y + x) by show nI (5 + 97 * p) + nI 8 * nI y + nI x = _; rw [pk_mul, nI_add, nI_add]]
  refine x_iaN rfl h3 (by omega) ?_
  refine x_reti rfl (Nat.le_of_ble_eq_true rfl) (Nat.le_of_ble_eq_true rfl) rfl ?_
  exact ⟨rfl, rfl⟩
