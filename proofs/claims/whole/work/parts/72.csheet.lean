/-! sheets of the class; cw_ -/
section CALLS
variable {g : aG} {d : Nat} {w : aW} {F A : Nat → Nat → Int32} {L : Nat → Int64}
theorem udA_t {F : Nat → Nat → Int32} {q : Nat} {h : Nat → Int32} : udA F q h q = h := by unfold udA; rw [if_pos rfl]
/-- a sheet's numbers after its beginning -/
def shtB (h : Nat → Int32) (a b c e : Int32) : Nat → Int32 := upd (upd (upd (upd (upd h 4 0) 5 a) 6 b) 7 c) 8 e
theorem c_begin {q : Nat} {x y z u : Int32} (hq : ShAt q) (hn : w.1 = N0) : Ev g (d + 1) 60 [.ref q, .int x, .int y, .int z, .int u] (cW w F A L) (fun v w' => v = none ∧ w' = cW w (udA F q (shtB (F q) x y z u)) A L) noX := by
  refine ev_X6_begin ?_ (Nat.le_of_ble_eq_true rfl)
  refine x_lo (lo' := [some (.ref q), some (.int x), some (.int y), some (.int z), some (.int u)]) rfl ?_
  refine x_al rfl rfl ?_
  refine x_c rfl ?_
  refine x_putC rfl hn (by first | assumption | exact sh_0 (by assumption) | exact sh_r (r := 0) (by assumption) (by decide) | exact sh_r (r := 1) (by assumption) (by decide) | exact sh_r (r := 2) (by assumption) (by decide) | exact sh_r (r := 3) (by assumption) (by decide) | rfl) (by exact rfl) rfl rfl ?_
  refine x_al rfl rfl ?_
  refine x_il rfl rfl ?_
  refine x_putC rfl hn (by first | assumption | exact sh_0 (by assumption) | exact sh_r (r := 0) (by assumption) (by decide) | exact sh_r (r := 1) (by assumption) (by decide) | exact sh_r (r := 2) (by assumption) (by decide) | exact sh_r (r := 3) (by assumption) (by decide) | rfl) (by exact rfl) rfl rfl ?_
  refine x_al rfl rfl ?_
  refine x_il rfl rfl ?_
  refine x_putC rfl hn (by first | assumption | exact sh_0 (by assumption) | exact sh_r (r := 0) (by assumption) (by decide) | exact sh_r (r := 1) (by assumption) (by decide) | exact sh_r (r := 2) (by assumption) (by decide) | exact sh_r (r := 3) (by assumption) (by decide) | rfl) (by exact rfl) rfl rfl ?_
  refine x_al rfl rfl ?_
  refine x_il rfl rfl ?_
  refine x_putC rfl hn (by first | assumption | exact sh_0 (by assumption) | exact sh_r (r := 0) (by assumption) (by decide) | exact sh_r (r := 1) (by assumption) (by decide) | exact sh_r (r := 2) (by assumption) (by decide) | exact sh_r (r := 3) (by assumption) (by decide) | rfl) (by exact rfl) rfl rfl ?_
  refine x_al rfl rfl ?_
  refine x_il rfl rfl ?_
  refine x_putC rfl hn (by first | assumption | exact sh_0 (by assumption) | exact sh_r (r := 0) (by assumption) (by decide) | exact sh_r (r := 1) (by assumption) (by decide) | exact sh_r (r := 2) (by assumption) (by decide) | exact sh_r (r := 3) (by assumption) (by decide) | rfl) (by exact rfl) rfl rfl ?_
  refine x_retv rfl (Nat.le_of_ble_eq_true rfl) (Nat.le_of_ble_eq_true rfl) rfl ?_
  refine ⟨rfl, ?_⟩
  simp only [udA_t, udA_udA]
  rfl
end CALLS
