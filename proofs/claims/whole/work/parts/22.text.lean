/-! Math's methods; texts -/
theorem m_max {g : aG} {d : Nat} {w : aW} {x y : Int32} : Ev g (d + 1) 335 [.int x, .int y] w (RetQ (if y ≤ x then x else y) w) noX := by
  refine ev_J9_max_7cf53 ?_ (Nat.le_of_ble_eq_true rfl)
  refine x_il rfl rfl ?_
  refine x_il rfl rfl ?_
  refine x_iclt rfl (fun c => ?_) (fun c => ?_)
  · refine x_il rfl rfl ?_
    refine x_reti rfl (Nat.le_of_ble_eq_true rfl) (Nat.le_of_ble_eq_true rfl) rfl ?_
    exact ⟨by rw [if_neg (Int32.not_le.mpr c)], rfl⟩
  · refine x_il rfl rfl ?_
    refine x_go rfl ?_
    refine x_reti rfl (Nat.le_of_ble_eq_true rfl) (Nat.le_of_ble_eq_true rfl) rfl ?_
    exact ⟨by rw [if_pos (Int32.not_lt.mp c)], rfl⟩
theorem m_min {g : aG} {d : Nat} {w : aW} {x y : Int32} : Ev g (d + 1) 336 [.int x, .int y] w (RetQ (if x ≤ y then x else y) w) noX := by
  refine ev_J9_min_7cf53 ?_ (Nat.le_of_ble_eq_true rfl)
  refine x_il rfl rfl ?_
  refine x_il rfl rfl ?_
  refine x_icgt rfl (fun c => ?_) (fun c => ?_)
  · refine x_il rfl rfl ?_
    refine x_reti rfl (Nat.le_of_ble_eq_true rfl) (Nat.le_of_ble_eq_true rfl) rfl ?_
    exact ⟨by rw [if_neg (Int32.not_le.mpr c)], rfl⟩
  · refine x_il rfl rfl ?_
    refine x_go rfl ?_
    refine x_reti rfl (Nat.le_of_ble_eq_true rfl) (Nat.le_of_ble_eq_true rfl) rfl ?_
    exact ⟨by rw [if_pos (Int32.not_lt.mp c)], rfl⟩
theorem m_abs {g : aG} {d : Nat} {w : aW} {x : Int32} : Ev g (d + 1) 334 [.int x] w (RetQ (if 0 ≤ x then x else -x) w) noX := by
  refine ev_J9_abs_0f7a4 ?_ (Nat.le_of_ble_eq_true rfl)
  refine x_il rfl rfl ?_
  refine x_ifge rfl (fun c => ?_) (fun c => ?_)
  · refine x_il rfl rfl ?_
    refine x_reti rfl (Nat.le_of_ble_eq_true rfl) (Nat.le_of_ble_eq_true rfl) rfl ?_
    exact ⟨by rw [if_pos c], rfl⟩
  · refine x_il rfl rfl ?_
    refine x_neg rfl ?_
    refine x_go rfl ?_
    refine x_reti rfl (Nat.le_of_ble_eq_true rfl) (Nat.le_of_ble_eq_true rfl) rfl ?_
    exact ⟨by rw [if_neg c], rfl⟩
/-- floorMod as the bytes have it -/
def fMod (x y : Int32) : Int32 := if (x ^^^ y) < 0 ∧ x - x / y * y ≠ 0 then x - x / y * y + y else x - x / y * y
theorem m_floorMod {g : aG} {d : Nat} {w : aW} {x y : Int32} (hy : ¬ y = 0) : Ev g (d + 1) 333 [.int x, .int y] w (RetQ (fMod x y) w) noX := by
  refine ev_J9_floorMod_7cf53 ?_ (Nat.le_of_ble_eq_true rfl)
  refine x_il rfl rfl ?_
  refine x_il rfl rfl ?_
  refine x_rem rfl hy ?_
  refine x_is rfl (Nat.le_of_ble_eq_true rfl) rfl ?_
  refine x_il rfl rfl ?_
  refine x_il rfl rfl ?_
  refine x_xor rfl ?_
  refine x_ifge rfl (fun c => ?_) (fun c => ?_)
  · refine x_il rfl rfl ?_
    refine x_reti rfl (Nat.le_of_ble_eq_true rfl) (Nat.le_of_ble_eq_true rfl) rfl ?_
    exact ⟨by unfold fMod; rw [if_neg (fun h => absurd h.1 (Int32.not_lt.mpr c))], rfl⟩
  refine x_il rfl rfl ?_
  refine x_ifeq rfl (fun c2 => ?_) (fun c2 => ?_)
  · refine x_il rfl rfl ?_
    refine x_reti rfl (Nat.le_of_ble_eq_true rfl) (Nat.le_of_ble_eq_true rfl) rfl ?_
    exact ⟨by unfold fMod; rw [if_neg (fun h => h.2 c2)], rfl⟩
  · refine x_il rfl rfl ?_
    refine x_il rfl rfl ?_
    refine x_add rfl ?_
    refine x_reti rfl (Nat.le_of_ble_eq_true rfl) (Nat.le_of_ble_eq_true rfl) rfl ?_
    exact ⟨by unfold fMod; rw [if_pos ⟨Int32.not_le.mp c, c2⟩], rfl⟩
/-- text k of the fixed ones -/
def TxAt (g : aG) (k n : Nat) (f : Nat → Int32) : Prop := k < 100 ∧ g.1 (k + 100) = some (2, n, f) ∧ n < 2 ^ 31 ∧ g.2 2 = .int 1
theorem TxAt.some {g : aG} {k n : Nat} {f : Nat → Int32} (h : TxAt g k n f) : (g.1 (FB + k - FB + 100)).isSome = true := by
  rw [Nat.add_sub_cancel_left, h.2.1]
  rfl
theorem tx_row {k : Nat} : FB + k + 100 - FB = k + 100 := by rw [Nat.add_assoc, Nat.add_sub_cancel_left]
theorem TxAt.rcv {g : aG} {w : aW} {k n : Nat} {f : Nat → Int32} {as : List Value} (h : TxAt g k n f) : rcvA g [99] w (.ref (FB + k) :: as) := ⟨Nat.le_add_right _ _, Nat.add_lt_add_left h.1 _, h.some⟩
theorem m_coder {g : aG} {d : Nat} {w : aW} {k n : Nat} {f : Nat → Int32} (h : TxAt g k n f) : Ev g (d + 1) 338 [.ref (FB + k)] w (RetQ 0 w) noX := by
  refine ev_J0_coder_7d493 ?_ (Nat.le_of_ble_eq_true rfl)
  refine x_gst rfl h.2.2.2 ?_
  refine x_ifeq rfl (fun c => absurd c (by decide)) (fun c => ?_)
  refine x_al rfl rfl ?_
  refine x_gs1 rfl (Nat.le_add_right _ _) (Nat.add_lt_add_left h.1 _) h.some ?_
  refine x_go rfl ?_
  refine x_ret rfl (Nat.le_of_ble_eq_true rfl) (Nat.le_of_ble_eq_true rfl) rfl rfl rfl (fun h => by cases h) ?_
  exact ⟨rfl, rfl⟩
theorem m_isLatin1 {g : aG} {d : Nat} {w : aW} {k n : Nat} {f : Nat → Int32} (h : TxAt g k n f) : Ev g (d + 1) 340 [.ref (FB + k)] w (RetQ 1 w) noX := by
  refine ev_J0_isLatin1_aae02 ?_ (Nat.le_of_ble_eq_true rfl)
  refine x_gst rfl h.2.2.2 ?_
  refine x_ifeq rfl (fun c => absurd c (by decide)) (fun c => ?_)
  refine x_al rfl rfl ?_
  refine x_gs1 rfl (Nat.le_add_right _ _) (Nat.add_lt_add_left h.1 _) h.some ?_
  refine x_ifne rfl (fun c => absurd rfl c) (fun c => ?_)
  refine x_c rfl ?_
  refine x_go rfl ?_
  refine x_retz rfl (Nat.le_of_ble_eq_true rfl) (Nat.le_of_ble_eq_true rfl) rfl (by first | rfl | assumption) ?_
  exact ⟨rfl, rfl⟩
theorem m_length {g : aG} {d : Nat} {w : aW} {k n : Nat} {f : Nat → Int32} (h : TxAt g k n f) (hn : w.1 = N0) : Ev g (d + 2) 337 [.ref (FB + k)] w (RetQ (nI n) w) noX := by
  refine ev_J0_length_8abf5 ?_ (Nat.le_of_ble_eq_true rfl)
  refine x_al rfl rfl ?_
  refine x_gs0 rfl (Nat.le_add_right _ _) (Nat.add_lt_add_left h.1 _) h.some ?_
  refine x_lenF rfl (Nat.le_trans (Nat.le_add_right _ _) (Nat.le_add_right _ _)) (by rw [tx_row]; exact h.2.1) ?_
  refine x_al rfl rfl ?_
  refine x_call1 (m_coder h) rfl (Nat.le_of_ble_eq_true rfl) (Or.inl hn) h.rcv (Nat.le_of_ble_eq_true rfl) (Nat.le_of_ble_eq_true rfl) (fun E w' hq => hq.elim) ?_
  rintro v w' ⟨rfl, rfl⟩
  refine x_shr rfl ?_
  refine x_reti rfl (Nat.le_of_ble_eq_true rfl) (Nat.le_of_ble_eq_true rfl) rfl ?_
  exact ⟨by rw [show (0 : Int32) &&& 31 = 0 by decide]; show some (Value.int (Int32.ofNat n >>> 0)) = some (.int (nI n)); rw [Int32.shiftRight_zero]; rfl, rfl⟩
theorem m_checkIndex3 {g : aG} {d : Nat} {w : aW} {x y : Int32} {z : Value} (hz : z.category = 1) (h : 0 ≤ x ∧ x < y) : Ev g (d + 1) 343 [.int x, .int y, z] w (RetQ x w) noX := by
  refine ev_J3_checkIndex_8e157 ?_ (by cases z <;> first | exact Nat.le_of_ble_eq_true rfl | exact absurd (show (2 : Nat) = 1 from hz) (by decide))
  refine x_il rfl rfl ?_
  refine x_iflt rfl (fun c => absurd h.1 (Int32.not_le.mpr c)) (fun c => ?_)
  refine x_il rfl rfl ?_
  refine x_il rfl rfl ?_
  refine x_iclt rfl (fun c => ?_) (fun c => absurd h.2 c)
  refine x_il rfl rfl ?_
  refine x_reti rfl (Nat.le_of_ble_eq_true rfl) (Nat.le_of_ble_eq_true rfl) rfl ?_
  exact ⟨rfl, rfl⟩
theorem m_checkIndex {g : aG} {d : Nat} {w : aW} {x y : Int32} (hz : (g.2 3).category = 1) (h : 0 ≤ x ∧ x < y) (hn : w.1 = N0) : Ev g (d + 2) 341 [.int x, .int y] w (VoidQ w) noX := by
  refine ev_J0_checkIndex_df160 ?_ (Nat.le_of_ble_eq_true rfl)
  refine x_il rfl rfl ?_
  refine x_il rfl rfl ?_
  refine x_gst rfl rfl ?_
  refine x_call3 (m_checkIndex3 hz h) rfl (Nat.le_of_ble_eq_true rfl) (Or.inl hn) trivial (Nat.le_of_ble_eq_true rfl) (Nat.le_of_ble_eq_true rfl) (fun E w' hq => hq.elim) ?_
  rintro v w' ⟨rfl, rfl⟩
  refine x_pop rfl rfl ?_
  refine x_retv rfl (Nat.le_of_ble_eq_true rfl) (Nat.le_of_ble_eq_true rfl) rfl ?_
  exact ⟨rfl, rfl⟩
theorem i2c_of {x : Int32} (h : x &&& 255 = x) : (x.toUInt32 % 65536).toInt32 = x := by
  have h1 : x.toUInt32.toNat ≤ 255 := by
    have h2 : x.toUInt32 = x.toUInt32 &&& 255 := (congrArg Int32.toUInt32 h).symm
    rw [h2, UInt32.toNat_and]
    exact Nat.and_le_right
  have h3 : x.toUInt32 % 65536 = x.toUInt32 := by
    apply UInt32.toNat_inj.mp
    rw [UInt32.toNat_mod]
    exact Nat.mod_eq_of_lt (by show x.toUInt32.toNat < 65536; omega)
  rw [h3]
  rfl
theorem m_charAt1 {g : aG} {d : Nat} {w : aW} {k n j : Nat} {f : Nat → Int32} (h : TxAt g k n f) (hz : (g.2 3).category = 1) (hj : j < n) (hn : w.1 = N0) (hf : f j &&& 255 = f j) : Ev g (d + 3) 342 [.ref (FB + k + 100), .int (nI j)] w (RetQ (f j) w) noX := by
  have hr : FB ≤ FB + k + 100 := Nat.le_trans (Nat.le_add_right _ _) (Nat.le_add_right _ _)
  refine ev_J1_charAt_3b067 ?_ (Nat.le_of_ble_eq_true rfl)
  refine x_il rfl rfl ?_
  refine x_al rfl rfl ?_
  refine x_lenF rfl hr (by rw [tx_row]; exact h.2.1) ?_
  refine x_call2 (m_checkIndex hz ⟨nI_pos' (Nat.lt_trans hj h.2.2.1), nI_lt hj h.2.2.1⟩ hn) rfl (Nat.le_of_ble_eq_true rfl) (Or.inl hn) trivial (Nat.le_of_ble_eq_true rfl) (Nat.le_of_ble_eq_true rfl) (fun E w' hq => hq.elim) ?_
  rintro v w' ⟨rfl, rfl⟩
  refine x_al rfl rfl ?_
  refine x_il rfl rfl ?_
  refine x_baF rfl hr (by rw [tx_row]; exact h.2.1) (vp_in_nI hj h.2.2.1) ?_
  rw [nI_clamp (Nat.lt_trans hj h.2.2.1)]
  refine x_c rfl ?_
  refine x_and rfl ?_
  rw [hf]
  refine x_i2c rfl ?_
  rw [i2c_of hf]
  refine x_ret rfl (Nat.le_of_ble_eq_true rfl) (Nat.le_of_ble_eq_true rfl) rfl (congrArg Value.int (i2c_of hf)) rfl (fun h => by cases h) ?_
  exact ⟨rfl, rfl⟩
theorem m_charAt {g : aG} {d : Nat} {w : aW} {k n j : Nat} {f : Nat → Int32} (h : TxAt g k n f) (hz : (g.2 3).category = 1) (hj : j < n) (hn : w.1 = N0) (hf : f j &&& 255 = f j) : Ev g (d + 4) 339 [.ref (FB + k), .int (nI j)] w (RetQ (f j) w) noX := by
  refine ev_J0_charAt_5068e ?_ (Nat.le_of_ble_eq_true rfl)
  refine x_al rfl rfl ?_
  refine x_call1 (m_isLatin1 h) rfl (Nat.le_of_ble_eq_true rfl) (Or.inl hn) h.rcv (Nat.le_of_ble_eq_true rfl) (Nat.le_of_ble_eq_true rfl) (fun E w' hq => hq.elim) ?_
  rintro v w' ⟨rfl, rfl⟩
  refine x_ifeq rfl (fun c => absurd c (by decide)) (fun c => ?_)
  refine x_al rfl rfl ?_
  refine x_gs0 rfl (Nat.le_add_right _ _) (Nat.add_lt_add_left h.1 _) h.some ?_
  refine x_il rfl rfl ?_
  refine x_call2 (m_charAt1 h hz hj hn hf) rfl (Nat.le_of_ble_eq_true rfl) (Or.inl hn) trivial (Nat.le_of_ble_eq_true rfl) (Nat.le_of_ble_eq_true rfl) (fun E w' hq => hq.elim) ?_
  rintro v w' ⟨rfl, rfl⟩
  refine x_ret rfl (Nat.le_of_ble_eq_true rfl) (Nat.le_of_ble_eq_true rfl) rfl (congrArg Value.int (i2c_of hf)) rfl (fun h => by cases h) ?_
  exact ⟨rfl, rfl⟩
