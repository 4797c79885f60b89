/-! the row of longs of the class's Facts -/
section CRULES
variable {g : aG} {d : Nat} {w : aW} {F A : Nat → Nat → Int32} {L : Nat → Int64}
variable {I : aInfo} {K : List aI} {Qr : Option Value → aW → Prop} {Qx : String → aW → Prop} {nb : Nat} {uc us i : Nat} {lo : List (Option Value)} {st : List Value}
theorem x_laC {j : Nat} (hK : K[i]? = some (aO 27 0 0)) (hn : w.1 = N0) (hj : j < 5) (k : EX g mbOf (Ev g d) I K Qr Qx nb (cW w F A L) uc us (i + 1) lo (.long (L j) :: st)) : EX g mbOf (Ev g d) I K Qr Qx nb (cW w F A L) uc us i lo (.int (nI j) :: .ref 1406 :: st) :=
  x_la hK (cw_la (q := 1406) (n := 5) rfl hn) (vp_in_nI hj (by decide)) (by rw [nI_clamp (by omega)]; exact k)
theorem x_lasC {j : Nat} {x : Int64} (hK : K[i]? = some (aO 28 0 0)) (hn : w.1 = N0) (hj : j < 5) (k : EX g mbOf (Ev g d) I K Qr Qx nb (cW w F A (vp_updL L j x)) uc us (i + 1) lo st) : EX g mbOf (Ev g d) I K Qr Qx nb (cW w F A L) uc us i lo (.long x :: .int (nI j) :: .ref 1406 :: st) :=
  x_las hK (cw_la (q := 1406) (n := 5) rfl hn) (vp_in_nI hj (by decide)) (by rw [nI_clamp (by omega), cw_uL]; exact k)
end CRULES
