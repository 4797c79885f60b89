/-! sheets of the class; cw_ -/
section CALLS
variable {g : aG} {d : Nat} {w : aW} {F A : Nat → Nat → Int32} {L : Nat → Int64}
/-- the rows after a point is added at n -/
def shtA (A : Nat → Nat → Int32) (q n : Nat) (a b c e : Int32) : Nat → Nat → Int32 := udA (udA (udA (udA A (q + 1) (upd (A (q + 1)) n a)) (q + 2) (upd (A (q + 2)) n b)) (q + 3) (upd (A (q + 3)) n c)) (q + 4) (upd (A (q + 4)) n e)
theorem udA_ne {A : Nat → Nat → Int32} {q r : Nat} {h : Nat → Int32} (hr : r ≠ q) : udA A q h r = A r := if_neg hr
theorem c_add {q n : Nat} {x y z u : Int32} (hq : ShAt q) (h4 : F q 4 = nI n) (hl : n < 8) (hn : w.1 = N0) : Ev g (d + 1) 61 [.ref q, .int x, .int y, .int z, .int u] (cW w F A L) (RetQ (nI n) (cW w (udA F q (upd (F q) 4 (nI (n + 1)))) (shtA A q n x y z u) L)) noX := by
  refine ev_X6_add ?_ (Nat.le_of_ble_eq_true rfl)
  refine x_lo (lo' := [some (.ref q), some (.int x), some (.int y), some (.int z), some (.int u)]) rfl ?_
  refine x_al rfl rfl ?_
  refine x_getC rfl hn (by first | assumption | exact sh_0 (by assumption) | exact sh_r (r := 0) (by assumption) (by decide) | exact sh_r (r := 1) (by assumption) (by decide) | exact sh_r (r := 2) (by assumption) (by decide) | exact sh_r (r := 3) (by assumption) (by decide) | rfl) (by exact rfl) ?_
  rw [h4]
  refine x_c rfl ?_
  refine x_icltN (y := 8) rfl (by omega) (fun c0 => ?_) (fun c0 => ?_)
  rotate_left
  · refine x_c rfl ?_
    refine x_reti rfl (Nat.le_of_ble_eq_true rfl) (Nat.le_of_ble_eq_true rfl) rfl ?_
    exact absurd hl (by omega)
  refine x_al rfl rfl ?_
  refine x_getC rfl hn (by first | assumption | exact sh_0 (by assumption) | exact sh_r (r := 0) (by assumption) (by decide) | exact sh_r (r := 1) (by assumption) (by decide) | exact sh_r (r := 2) (by assumption) (by decide) | exact sh_r (r := 3) (by assumption) (by decide) | rfl) (by exact rfl) ?_
  refine x_al rfl rfl ?_
  refine x_getC rfl hn (by first | assumption | exact sh_0 (by assumption) | exact sh_r (r := 0) (by assumption) (by decide) | exact sh_r (r := 1) (by assumption) (by decide) | exact sh_r (r := 2) (by assumption) (by decide) | exact sh_r (r := 3) (by assumption) (by decide) | rfl) (by exact rfl) ?_
  rw [h4]
  refine x_il rfl rfl ?_
  refine x_iasC rfl hn (by first | assumption | exact sh_0 (by assumption) | exact sh_r (r := 0) (by assumption) (by decide) | exact sh_r (r := 1) (by assumption) (by decide) | exact sh_r (r := 2) (by assumption) (by decide) | exact sh_r (r := 3) (by assumption) (by decide) | rfl) (by omega) ?_
  refine x_al rfl rfl ?_
  refine x_getC rfl hn (by first | assumption | exact sh_0 (by assumption) | exact sh_r (r := 0) (by assumption) (by decide) | exact sh_r (r := 1) (by assumption) (by decide) | exact sh_r (r := 2) (by assumption) (by decide) | exact sh_r (r := 3) (by assumption) (by decide) | rfl) (by exact rfl) ?_
  refine x_al rfl rfl ?_
  refine x_getC rfl hn (by first | assumption | exact sh_0 (by assumption) | exact sh_r (r := 0) (by assumption) (by decide) | exact sh_r (r := 1) (by assumption) (by decide) | exact sh_r (r := 2) (by assumption) (by decide) | exact sh_r (r := 3) (by assumption) (by decide) | rfl) (by exact rfl) ?_
  rw [h4]
  refine x_il rfl rfl ?_
  refine x_iasC rfl hn (by first | assumption | exact sh_0 (by assumption) | exact sh_r (r := 0) (by assumption) (by decide) | exact sh_r (r := 1) (by assumption) (by decide) | exact sh_r (r := 2) (by assumption) (by decide) | exact sh_r (r := 3) (by assumption) (by decide) | rfl) (by omega) ?_
  refine x_al rfl rfl ?_
  refine x_getC rfl hn (by first | assumption | exact sh_0 (by assumption) | exact sh_r (r := 0) (by assumption) (by decide) | exact sh_r (r := 1) (by assumption) (by decide) | exact sh_r (r := 2) (by assumption) (by decide) | exact sh_r (r := 3) (by assumption) (by decide) | rfl) (by exact rfl) ?_
  refine x_al rfl rfl ?_
  refine x_getC rfl hn (by first | assumption | exact sh_0 (by assumption) | exact sh_r (r := 0) (by assumption) (by decide) | exact sh_r (r := 1) (by assumption) (by decide) | exact sh_r (r := 2) (by assumption) (by decide) | exact sh_r (r := 3) (by assumption) (by decide) | rfl) (by exact rfl) ?_
  rw [h4]
  refine x_il rfl rfl ?_
  refine x_iasC rfl hn (by first | assumption | exact sh_0 (by assumption) | exact sh_r (r := 0) (by assumption) (by decide) | exact sh_r (r := 1) (by assumption) (by decide) | exact sh_r (r := 2) (by assumption) (by decide) | exact sh_r (r := 3) (by assumption) (by decide) | rfl) (by omega) ?_
  refine x_al rfl rfl ?_
  refine x_getC rfl hn (by first | assumption | exact sh_0 (by assumption) | exact sh_r (r := 0) (by assumption) (by decide) | exact sh_r (r := 1) (by assumption) (by decide) | exact sh_r (r := 2) (by assumption) (by decide) | exact sh_r (r := 3) (by assumption) (by decide) | rfl) (by exact rfl) ?_
  refine x_al rfl rfl ?_
  refine x_getC rfl hn (by first | assumption | exact sh_0 (by assumption) | exact sh_r (r := 0) (by assumption) (by decide) | exact sh_r (r := 1) (by assumption) (by decide) | exact sh_r (r := 2) (by assumption) (by decide) | exact sh_r (r := 3) (by assumption) (by decide) | rfl) (by exact rfl) ?_
  rw [h4]
  refine x_il rfl rfl ?_
  refine x_iasC rfl hn (by first | assumption | exact sh_0 (by assumption) | exact sh_r (r := 0) (by assumption) (by decide) | exact sh_r (r := 1) (by assumption) (by decide) | exact sh_r (r := 2) (by assumption) (by decide) | exact sh_r (r := 3) (by assumption) (by decide) | rfl) (by omega) ?_
  refine x_al rfl rfl ?_
  refine x_dup rfl rfl ?_
  refine x_getC rfl hn (by first | assumption | exact sh_0 (by assumption) | exact sh_r (r := 0) (by assumption) (by decide) | exact sh_r (r := 1) (by assumption) (by decide) | exact sh_r (r := 2) (by assumption) (by decide) | exact sh_r (r := 3) (by assumption) (by decide) | rfl) (by exact rfl) ?_
  rw [h4]
  refine x_c rfl ?_
  refine x_addN (y := 1) rfl ?_
  refine x_putC rfl hn (by first | assumption | exact sh_0 (by assumption) | exact sh_r (r := 0) (by assumption) (by decide) | exact sh_r (r := 1) (by assumption) (by decide) | exact sh_r (r := 2) (by assumption) (by decide) | exact sh_r (r := 3) (by assumption) (by decide) | rfl) (by exact rfl) rfl rfl ?_
  refine x_al rfl rfl ?_
  refine x_getC rfl hn (by first | assumption | exact sh_0 (by assumption) | exact sh_r (r := 0) (by assumption) (by decide) | exact sh_r (r := 1) (by assumption) (by decide) | exact sh_r (r := 2) (by assumption) (by decide) | exact sh_r (r := 3) (by assumption) (by decide) | rfl) (by exact rfl) ?_
  refine x_c rfl ?_
  refine x_sub rfl ?_
  refine x_reti rfl (Nat.le_of_ble_eq_true rfl) (Nat.le_of_ble_eq_true rfl) rfl ?_
  simp only [udA_at, upd, if_true]
  simp only [udA_ne (show q + 2 ≠ q + 1 by omega), udA_ne (show q + 3 ≠ q + 2 by omega), udA_ne (show q + 3 ≠ q + 1 by omega), udA_ne (show q + 4 ≠ q + 3 by omega), udA_ne (show q + 4 ≠ q + 2 by omega), udA_ne (show q + 4 ≠ q + 1 by omega)]
  refine ⟨?_, rfl⟩
  have e : nI (n + 1) - nI 1 = nI n := (pk_sub (a := n + 1) (b := 1) (by omega)).trans (by rw [Nat.add_sub_cancel])
  exact congrArg (fun z => some (Value.int z)) e
end CALLS
