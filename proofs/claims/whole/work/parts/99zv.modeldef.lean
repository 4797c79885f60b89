/-! the constructor of the reference -/
section CT
variable {g : aG} {d : Nat}
theorem df_11 : dfA 11 = [.int 0, .null, .null, .int 0, .null, .int 0, .int 0, .int 0, .int 0, .int 0, .int 0, .null, .null, .int 0, .int 0, .int 0, .int 0, .int 0, .null, .null, .int 0, .null, .null, .int 0, .null, .null, .null, .null] := by decide +kernel
def oModel (q : Nat) : List bO := .inr (11, [.int 0, .ref (q + 1), .ref (q + 2), .int 0, .ref (q + 3), .int 0, .int 0, .int 0, .int 0, .int 0, .int (-1), .ref (q + 4), .ref (q + 5), .int 0, .int 0, .int 0, .int 0, .int 0, .ref (q + 6), .ref (q + 7), .int 0, .ref (q + 8), .ref (q + 9), .int 0, .ref (q + 10), .ref (q + 11), .ref (q + 12), .ref (q + 13)]) :: ([.inl (0, 22176, [])] ++ [.inl (0, 21326, [])] ++ [.inl (2, 400, [])] ++ [.inl (0, 5, [])] ++ [.inl (0, 64, [])] ++ [.inl (0, 8, [])] ++ [.inl (0, 8, [])] ++ [.inl (1, 16, [])] ++ [.inl (1, 16, [])] ++ [.inl (3, 4, [])] ++ [.inl (0, 5, [])] ++ [.inl (3, 400, [])] ++ [.inl (0, 16, [])])
theorem up_at {w : aW} {q : Nat} {e : va_E} (h : q < w.1) : aAt (aUp w q e) q e := ⟨h, by show va_up w.2 q e q = e; unfold va_up; rw [if_pos rfl]⟩
theorem up_ne {w : aW} {q q' : Nat} {e e' : va_E} (h : aAt w q' e') (hq : q' ≠ q) : aAt (aUp w q e) q' e' := ⟨h.1, by show va_up w.2 q e q' = e'; unfold va_up; rw [if_neg hq]; exact h.2⟩
theorem up_2 {w : aW} {q : Nat} {e e' : va_E} : aUp (aUp w q e) q e' = aUp w q e' := by
  refine Prod.ext rfl (funext fun j => ?_)
  show va_up (va_up w.2 q e) q e' j = va_up w.2 q e' j
  unfold va_up
  by_cases h : j = q
  · rw [if_pos h, if_pos h]
  · rw [if_neg h, if_neg h, if_neg h]
/-- the reference's world at the beginning -/
def f0W : Nat → Int32 := upd (upd (fun _ => 0) 1 1) 2 10
end CT
