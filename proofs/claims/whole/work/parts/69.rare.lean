/-! rare; mset_ -/
def remL (x y : Int64) : Int64 := x - x / y * y
/-- the common divisor, if it is found in k steps -/
def comI : Nat → Int64 → Int64 → Option Int64
  | 0, x, y => if 0 < y then none else some x
  | k + 1, x, y => if 0 < y then comI k y (remL x y) else some x
abbrev inP (f : Nat → Int32) (j c : Nat) : Prop := f (6607 + 26 * c + 2) < 0 ∧ 0 ≤ f (6607 + 26 * c + (6 + j))
def hvN (f : Nat → Int32) (j : Nat) (cl : Int32) : Nat → Nat := cn (fun c => decide (inP f j c ∧ clC f c j 0 = cl))
def alN (f : Nat → Int32) (j : Nat) : Nat → Nat := cn (fun c => decide (inP f j c))
def rarS (f : Nat → Int32) (nc card : Nat) (j : Nat) (s : Int64 × Int64) : Option (Int64 × Int64) := if f (6607 + 26 * card + (6 + j)) < 0 then some s else match comI 200 (s.1 * Int64.ofNat (1 + hvN f j (clC f card j 0) nc)) (s.2 * Int64.ofNat (2 + alN f j nc)) with
  | none => none
  | some e => if e = 0 then none else some (s.1 * Int64.ofNat (1 + hvN f j (clC f card j 0) nc) / e, s.2 * Int64.ofNat (2 + alN f j nc) / e)
def rarF (f : Nat → Int32) (nc card : Nat) : Nat → Option (Int64 × Int64)
  | 0 => some (1, 1)
  | j + 1 => match rarF f nc card j with
    | none => none
    | some s => rarS f nc card j s
theorem lo_1 (n : Nat) : Int64.ofNat n + 1 = Int64.ofNat (n + 1) := (Int64.ofNat_add n 1).symm
section CALLS
variable {g : aG} {d : Nat} {w : aW} {m f : Nat → Int32} {A : Nat → Nat → Int32} {B : Nat → Nat → Int64}
theorem lcmp_le {x : Int64} : lg_cmp x 0 ≤ 0 ↔ ¬ 0 < x := by
  unfold lg_cmp
  constructor
  · intro h
    split at h
    · exact absurd h (by decide)
    · rename_i h1
      exact h1
  · intro h
    rw [if_neg (by exact h)]
    split <;> decide
theorem n_common {r : Int64} {k : Nat} {x0 y0 : Int64} (h0 : comI k x0 y0 = some r) : Ev g (d + 1) 292 [.long x0, .long y0] w (fun v w' => v = some (.long r) ∧ w' = w) noX := by
  have loop : ∀ k x y z, comI k x y = some r → EX g mbOf (Ev g (d)) (infoOf 292) k_X11_common (fun v w' => v = some (.long r) ∧ w' = w) noX w.1 (w) 0 0 4 [some (.long x0), none, some (.long y0), none, some (.long x), none, some (.long y), none, z, none] [] := by
    intro k
    induction k with
    | zero =>
      intro x y z h
      unfold comI at h
      refine x_ll rfl rfl ?_
      refine x_c rfl ?_
      refine x_lcmp rfl ?_
      by_cases c1 : 0 < y
      · rw [if_pos c1] at h; cases h
      · rw [if_neg c1] at h
        cases h
        refine x_ifle rfl (fun c => ?_) (fun c => absurd (lcmp_le.mpr c1) c)
        refine x_ll rfl rfl ?_
        refine x_retl rfl (Nat.le_of_ble_eq_true rfl) (Nat.le_of_ble_eq_true rfl) rfl ?_
        exact ⟨rfl, rfl⟩
    | succ k ih =>
      intro x y z h
      unfold comI at h
      refine x_ll rfl rfl ?_
      refine x_c rfl ?_
      refine x_lcmp rfl ?_
      by_cases c1 : 0 < y
      · rw [if_pos c1] at h
        refine x_ifle rfl (fun c => absurd c1 (lcmp_le.mp c)) (fun c => ?_)
        refine x_ll rfl rfl ?_
        refine x_ll rfl rfl ?_
        have hy : ¬ y = 0 := fun e => by rw [e] at c1; exact absurd c1 (by decide)
        refine x_lrem rfl hy ?_
        refine x_ls (lo' := [_, _, _, _, _, _, _, _, _, _]) rfl (Nat.le_of_ble_eq_true rfl) rfl ?_
        refine x_ll rfl rfl ?_
        refine x_ls (lo' := [_, _, _, _, _, _, _, _, _, _]) rfl (Nat.le_of_ble_eq_true rfl) rfl ?_
        refine x_ll rfl rfl ?_
        refine x_ls (lo' := [_, _, _, _, _, _, _, _, _, _]) rfl (Nat.le_of_ble_eq_true rfl) rfl ?_
        refine x_go rfl ?_
        exact ih _ _ _ h
      · rw [if_neg c1] at h
        cases h
        refine x_ifle rfl (fun c => ?_) (fun c => absurd (lcmp_le.mpr c1) c)
        refine x_ll rfl rfl ?_
        refine x_retl rfl (Nat.le_of_ble_eq_true rfl) (Nat.le_of_ble_eq_true rfl) rfl ?_
        exact ⟨rfl, rfl⟩
  refine ev_X11_common ?_ (Nat.le_of_ble_eq_true rfl)
  refine x_lo (lo' := [some (.long x0), none, some (.long y0), none, none, none, none, none, none, none]) rfl ?_
  refine x_ll rfl rfl ?_
  refine x_ls (lo' := [_, _, _, _, _, _, _, _, _, _]) rfl (Nat.le_of_ble_eq_true rfl) rfl ?_
  refine x_ll rfl rfl ?_
  refine x_ls (lo' := [_, _, _, _, _, _, _, _, _, _]) rfl (Nat.le_of_ble_eq_true rfl) rfl ?_
  exact loop k x0 y0 none h0
end CALLS
