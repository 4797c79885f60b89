/-! classes of fingers, readings -/
theorem nI_or (a b : Nat) : nI a ||| nI b = nI (a ||| b) := by
  apply Int32.toBitVec_inj.mp
  rw [Int32.toBitVec_or]
  exact BitVec.ofNat_or.symm
theorem nI_and (a b : Nat) : nI a &&& nI b = nI (a &&& b) := by
  apply Int32.toBitVec_inj.mp
  rw [Int32.toBitVec_and]
  exact BitVec.ofNat_and.symm
theorem bt_nI {b j : Nat} (h : j < 32) : bt (nI b) j = b.testBit j := by
  unfold bt
  rw [show (nI b).toBitVec = BitVec.ofNat 32 b from rfl, BitVec.getLsbD_ofNat]
  simp [h]
theorem shl_nI {j : Nat} (h : j < 31) : (1 : Int32) <<< (nI j &&& 31) = nI (2 ^ j) := by
  have : ∀ k : Fin 31, (1 : Int32) <<< (nI k.1 &&& 31) = nI (2 ^ k.1) := by decide
  exact this ⟨j, h⟩
def bitsN (P : Nat → Bool) (n : Nat) : Nat := acc (fun j x => x ||| (if P j then 2 ^ j else 0)) 0 n
theorem bits_N (P : Nat → Bool) {n : Nat} (h : n ≤ 31) : bitsF P n = nI (bitsN P n) := by
  induction n with
  | zero => rfl
  | succ n ih =>
    show bitsF P n ||| (if P n then 1 <<< (nI n &&& 31) else 0) = nI (bitsN P n ||| (if P n then 2 ^ n else 0))
    rw [ih (by omega), ← nI_or]
    split
    · rw [shl_nI (by omega)]
    · rfl
theorem bitsN_lt (P : Nat → Bool) (n : Nat) : bitsN P n < 2 ^ n := by
  induction n with
  | zero => exact Nat.zero_lt_one
  | succ n ih =>
    show bitsN P n ||| (if P n then 2 ^ n else 0) < 2 ^ (n + 1)
    apply Nat.or_lt_two_pow
    · exact Nat.lt_of_lt_of_le ih (Nat.pow_le_pow_right (by decide) (by omega))
    · split
      · exact Nat.pow_lt_pow_right (by decide) (by omega)
      · exact Nat.two_pow_pos _
theorem bitsN_tb (P : Nat → Bool) {n j : Nat} : (bitsN P n).testBit j = (decide (j < n) && P j) := by
  induction n with
  | zero => show Nat.testBit 0 j = _; simp
  | succ n ih =>
    show (bitsN P n ||| (if P n then 2 ^ n else 0)).testBit j = _
    rw [Nat.testBit_or, ih]
    by_cases hp : P n = true
    · rw [if_pos hp, Nat.testBit_two_pow]
      by_cases e : n = j
      · subst e; simp [hp]
      · have : decide (j < n + 1) = decide (j < n) := by by_cases h : j < n <;> simp [h] <;> omega
        rw [this]; simp [e]
    · rw [if_neg hp, Nat.zero_testBit, Bool.or_false]
      by_cases e : j = n
      · subst e; simp [hp]
      · have : decide (j < n + 1) = decide (j < n) := by by_cases h : j < n <;> simp [h] <;> omega
        rw [this]
def owC (f : Nat → Int32) (c j : Nat) (bits : Int32) : Int32 := if bt bits j = true then f (6607 + 26 * c + (16 + j)) else clsF f (cN (f (6607 + 26 * c + (6 + j))))
/-- the class of a finger, doubtful ones by bits -/
def clC (f : Nat → Int32) (c j : Nat) (bits : Int32) : Int32 := if 0 ≤ f (6607 + 26 * c + (6 + j)) then owC f c j bits else if 0 ≤ f (6607 + 26 * c + (6 + (j + 5) % 10)) then owC f c ((j + 5) % 10) bits else 7
def nuC (f : Nat → Int32) (c : Nat) (bits : Int32) (lo : Bool) : Nat → Int32 := acc (fun j v => 8 * v + clC f c (if lo then j + 5 else j) bits) 0
section CLASSES
variable {g : aG} {d : Nat} {w : aW} {m f : Nat → Int32} {A : Nat → Nat → Int32} {B : Nat → Nat → Int64}
theorem n_ownClass {c j : Nat} {bits : Int32} (hc : c < 16) (hj : j < 10) (hf : FO (f (6607 + 26 * c + (6 + j)))) (h0 : 0 ≤ f (6607 + 26 * c + (6 + j))) (hn : w.1 = N0) : Ev g (d + 9) 240 [.ref 1424, .int (nI c), .int (nI j), .int bits] (rW w m f A B) (RetQ (owC f c j bits) (rW w m f A B)) noX := by
  refine ev_X11_ownClass ?_ (Nat.le_of_ble_eq_true rfl)
  refine x_lo (lo' := [some (.ref 1424), some (.int (nI c)), some (.int (nI j)), some (.int bits)]) rfl ?_
  refine x_il rfl rfl ?_
  refine x_il rfl rfl ?_
  refine x_shr rfl ?_
  refine x_c rfl ?_
  refine x_and rfl ?_
  refine x_c rfl ?_
  rw [bt_shr (by omega)]
  refine x_icne rfl (fun c1 => ?_) (fun c1 => ?_)
  rotate_left
  · refine x_al rfl rfl ?_
    refine x_il rfl rfl ?_
    refine x_c rfl ?_
    refine x_il rfl rfl ?_
    refine x_addN (x := 16) rfl ?_
    refine x_call3 (n_of (by omega) hn) rfl (Nat.le_of_ble_eq_true rfl) (Or.inl (by first | exact hn | assumption)) (rcv_at (by first | exact rw_md hn | exact rw_w hn | exact rw_A hn (by exact rfl) | exact rw_B2 hn | exact rw_B3 hn | assumption) (by decide) (by decide)) (Nat.le_of_ble_eq_true rfl) (Nat.le_of_ble_eq_true rfl) (fun E w9 hq => hq.elim) ?_
    rintro v9 w9 ⟨rfl, rfl⟩
    refine x_go rfl ?_
    refine x_reti rfl (Nat.le_of_ble_eq_true rfl) (Nat.le_of_ble_eq_true rfl) rfl ?_
    exact ⟨by unfold owC; rw [if_pos (bI_1.mp c1)], rfl⟩
  refine x_al rfl rfl ?_
  refine x_al rfl rfl ?_
  refine x_il rfl rfl ?_
  refine x_c rfl ?_
  refine x_il rfl rfl ?_
  refine x_addN (x := 6) rfl ?_
  refine x_call3 (n_of (by omega) hn) rfl (Nat.le_of_ble_eq_true rfl) (Or.inl (by first | exact hn | assumption)) (rcv_at (by first | exact rw_md hn | exact rw_w hn | exact rw_A hn (by exact rfl) | exact rw_B2 hn | exact rw_B3 hn | assumption) (by decide) (by decide)) (Nat.le_of_ble_eq_true rfl) (Nat.le_of_ble_eq_true rfl) (fun E w9 hq => hq.elim) ?_
  rintro v9 w9 ⟨rfl, rfl⟩
  rcases hf with hf | ⟨p, hp, ep⟩
  · exact absurd hf (Int32.not_lt.mpr h0)
  have cp : cN (f (6607 + 26 * c + (6 + j))) = p := by rw [ep]; exact nI_clamp (by omega)
  unfold owC
  rw [if_neg (fun h => c1 (bI_1.mpr h)), cp, ep]
  refine x_call2 (n_classOfPrint hp hn) rfl (Nat.le_of_ble_eq_true rfl) (Or.inl (by first | exact hn | assumption)) (rcv_at (by first | exact rw_md hn | exact rw_w hn | exact rw_A hn (by exact rfl) | exact rw_B2 hn | exact rw_B3 hn | assumption) (by decide) (by decide)) (Nat.le_of_ble_eq_true rfl) (Nat.le_of_ble_eq_true rfl) (fun E w9 hq => hq.elim) ?_
  rintro v9 w9 ⟨rfl, rfl⟩
  refine x_reti rfl (Nat.le_of_ble_eq_true rfl) (Nat.le_of_ble_eq_true rfl) rfl ?_
  exact ⟨rfl, rfl⟩
theorem n_classOf {c j nc : Nat} {bits : Int32} (hF1 : WF1 f nc) (hc : c < nc) (hj : j < 10) (hn : w.1 = N0) : Ev g (d + 10) 241 [.ref 1424, .int (nI c), .int (nI j), .int bits] (rW w m f A B) (RetQ (clC f c j bits) (rW w m f A B)) noX := by
  have hnc := hF1.2.1
  refine ev_X11_classOf ?_ (Nat.le_of_ble_eq_true rfl)
  refine x_lo (lo' := [some (.ref 1424), some (.int (nI c)), some (.int (nI j)), some (.int bits), none]) rfl ?_
  refine x_al rfl rfl ?_
  refine x_il rfl rfl ?_
  refine x_c rfl ?_
  refine x_il rfl rfl ?_
  refine x_addN (x := 6) rfl ?_
  refine x_call3 (n_of (by omega) hn) rfl (Nat.le_of_ble_eq_true rfl) (Or.inl (by first | exact hn | assumption)) (rcv_at (by first | exact rw_md hn | exact rw_w hn | exact rw_A hn (by exact rfl) | exact rw_B2 hn | exact rw_B3 hn | assumption) (by decide) (by decide)) (Nat.le_of_ble_eq_true rfl) (Nat.le_of_ble_eq_true rfl) (fun E w9 hq => hq.elim) ?_
  rintro v9 w9 ⟨rfl, rfl⟩
  refine x_iflt rfl (fun c1 => ?_) (fun c1 => ?_)
  rotate_left
  · refine x_al rfl rfl ?_
    refine x_il rfl rfl ?_
    refine x_il rfl rfl ?_
    refine x_il rfl rfl ?_
    refine x_call4 (n_ownClass (by omega) hj (hF1.2.2 c hc j hj) (Int32.not_lt.mp c1) hn) rfl (Nat.le_of_ble_eq_true rfl) (Or.inl (by first | exact hn | assumption)) (rcv_at (by first | exact rw_md hn | exact rw_w hn | exact rw_A hn (by exact rfl) | exact rw_B2 hn | exact rw_B3 hn | assumption) (by decide) (by decide)) (Nat.le_of_ble_eq_true rfl) (Nat.le_of_ble_eq_true rfl) (fun E w9 hq => hq.elim) ?_
    rintro v9 w9 ⟨rfl, rfl⟩
    refine x_reti rfl (Nat.le_of_ble_eq_true rfl) (Nat.le_of_ble_eq_true rfl) rfl ?_
    exact ⟨by unfold clC; rw [if_pos (Int32.not_lt.mp c1)], rfl⟩
  refine x_il rfl rfl ?_
  refine x_c rfl ?_
  refine x_addN (y := 5) rfl ?_
  refine x_c rfl ?_
  refine x_remN (y := 10) rfl (by omega) ?_
  refine x_is (lo' := [_, _, _, _, _]) rfl (Nat.le_of_ble_eq_true rfl) rfl ?_
  refine x_al rfl rfl ?_
  refine x_il rfl rfl ?_
  refine x_c rfl ?_
  refine x_il rfl rfl ?_
  refine x_addN (x := 6) rfl ?_
  have h10 : (j + 5) % 10 < 10 := Nat.mod_lt _ (by decide)
  refine x_call3 (n_of (by omega) hn) rfl (Nat.le_of_ble_eq_true rfl) (Or.inl (by first | exact hn | assumption)) (rcv_at (by first | exact rw_md hn | exact rw_w hn | exact rw_A hn (by exact rfl) | exact rw_B2 hn | exact rw_B3 hn | assumption) (by decide) (by decide)) (Nat.le_of_ble_eq_true rfl) (Nat.le_of_ble_eq_true rfl) (fun E w9 hq => hq.elim) ?_
  rintro v9 w9 ⟨rfl, rfl⟩
  unfold clC
  rw [if_neg (Int32.not_le.mpr c1)]
  refine x_iflt rfl (fun c2 => ?_) (fun c2 => ?_)
  rotate_left
  · refine x_al rfl rfl ?_
    refine x_il rfl rfl ?_
    refine x_il rfl rfl ?_
    refine x_il rfl rfl ?_
    refine x_call4 (n_ownClass (by omega) h10 (hF1.2.2 c hc _ h10) (Int32.not_lt.mp c2) hn) rfl (Nat.le_of_ble_eq_true rfl) (Or.inl (by first | exact hn | assumption)) (rcv_at (by first | exact rw_md hn | exact rw_w hn | exact rw_A hn (by exact rfl) | exact rw_B2 hn | exact rw_B3 hn | assumption) (by decide) (by decide)) (Nat.le_of_ble_eq_true rfl) (Nat.le_of_ble_eq_true rfl) (fun E w9 hq => hq.elim) ?_
    rintro v9 w9 ⟨rfl, rfl⟩
    refine x_go rfl ?_
    refine x_reti rfl (Nat.le_of_ble_eq_true rfl) (Nat.le_of_ble_eq_true rfl) rfl ?_
    exact ⟨by rw [if_pos (Int32.not_lt.mp c2)], rfl⟩
  refine x_c rfl ?_
  refine x_reti rfl (Nat.le_of_ble_eq_true rfl) (Nat.le_of_ble_eq_true rfl) rfl ?_
  exact ⟨by rw [if_neg (Int32.not_le.mpr c2)], rfl⟩
theorem n_numberOf {c nc : Nat} {bits : Int32} {lo : Bool} (hF1 : WF1 f nc) (hc : c < nc) (hn : w.1 = N0) : Ev g (d + 11) 243 [.ref 1424, .int (nI c), .int bits, .int (bI lo)] (rW w m f A B) (RetQ (nuC f c bits lo 5) (rW w m f A B)) noX := by
  refine ev_X11_numberOf ?_ (Nat.le_of_ble_eq_true rfl)
  refine x_lo (lo' := [some (.ref 1424), some (.int (nI c)), some (.int bits), some (.int (bI lo)), none, none]) rfl ?_
  refine x_c rfl ?_
  refine x_is (lo' := [_, _, _, _, _, _]) rfl (Nat.le_of_ble_eq_true rfl) rfl ?_
  refine x_c rfl ?_
  refine x_is (lo' := [_, _, _, _, _, _]) rfl (Nat.le_of_ble_eq_true rfl) rfl ?_
  have loop : ∀ j, j ≤ 5 → EX g mbOf (Ev g (d + 10)) (infoOf 243) k_X11_numberOf (RetQ (nuC f c bits lo 5) (rW w m f A B)) noX w.1 (rW w m f A B) 0 0 4 [some (.ref 1424), some (.int (nI c)), some (.int bits), some (.int (bI lo)), some (.int (nuC f c bits lo j)), some (.int (nI j))] [] := by
    refine downN 5 fun j hj ih => ?_
    refine x_il rfl rfl ?_
    refine x_c rfl ?_
    refine x_icgeN (y := 5) rfl (by omega) (fun c0 => ?_) (fun c0 => ?_)
    · refine x_il rfl rfl ?_
      refine x_reti rfl (Nat.le_of_ble_eq_true rfl) (Nat.le_of_ble_eq_true rfl) rfl ?_
      obtain rfl : j = 5 := by omega
      exact ⟨rfl, rfl⟩
    refine x_c rfl ?_
    refine x_il rfl rfl ?_
    refine x_mul rfl ?_
    refine x_al rfl rfl ?_
    refine x_il rfl rfl ?_
    refine x_il rfl rfl ?_
    have ih := ih c0
    rw [show nuC f c bits lo (j + 1) = 8 * nuC f c bits lo j + clC f c (if lo then j + 5 else j) bits from rfl] at ih
    generalize nuC f c bits lo j = v at *
    cases lo with
    | false =>
      refine x_ifeq rfl (fun c => ?_) (fun c => absurd rfl c)
      refine x_il rfl rfl ?_
      refine x_il rfl rfl ?_
      refine x_call4 (n_classOf hF1 hc (by omega) hn) rfl (Nat.le_of_ble_eq_true rfl) (Or.inl (by first | exact hn | assumption)) (rcv_at (by first | exact rw_md hn | exact rw_w hn | exact rw_A hn (by exact rfl) | exact rw_B2 hn | exact rw_B3 hn | assumption) (by decide) (by decide)) (Nat.le_of_ble_eq_true rfl) (Nat.le_of_ble_eq_true rfl) (fun E w9 hq => hq.elim) ?_
      rintro v9 w9 ⟨rfl, rfl⟩
      refine x_add rfl ?_
      refine x_is (lo' := [_, _, _, _, _, _]) rfl (Nat.le_of_ble_eq_true rfl) rfl ?_
      refine x_inc1 (lo' := [_, _, _, _, _, _]) rfl rfl rfl ?_
      refine x_go rfl ?_
      exact ih
    | true =>
      refine x_ifeq rfl (fun c => absurd c (show ¬ (1 : Int32) = 0 by decide)) (fun c => ?_)
      refine x_il rfl rfl ?_
      refine x_c rfl ?_
      refine x_addN (y := 5) rfl ?_
      refine x_go rfl ?_
      refine x_il rfl rfl ?_
      refine x_call4 (n_classOf (j := j + 5) hF1 hc (by omega) hn) rfl (Nat.le_of_ble_eq_true rfl) (Or.inl (by first | exact hn | assumption)) (rcv_at (by first | exact rw_md hn | exact rw_w hn | exact rw_A hn (by exact rfl) | exact rw_B2 hn | exact rw_B3 hn | assumption) (by decide) (by decide)) (Nat.le_of_ble_eq_true rfl) (Nat.le_of_ble_eq_true rfl) (fun E w9 hq => hq.elim) ?_
      rintro v9 w9 ⟨rfl, rfl⟩
      refine x_add rfl ?_
      refine x_is (lo' := [_, _, _, _, _, _]) rfl (Nat.le_of_ble_eq_true rfl) rfl ?_
      refine x_inc1 (lo' := [_, _, _, _, _, _]) rfl rfl rfl ?_
      refine x_go rfl ?_
      exact ih
  exact loop 0 (by decide)
end CLASSES
