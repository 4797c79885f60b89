/-! the world at the law's beginning is one of the law's worlds; cw_ -/
def cW0 (z : Nat → va_E) : aW := aNew (aUp (wB z (oBureau 0 ++ oModel 1424)) 1425 (.inl (0, 22176, .inl f0W))) (.inl (1, 1, .inr (.inl fun _ => 0)))
section WORLD0
variable {z : Nat → va_E} {q : Nat}
theorem cH0_len : (oBureau 0 ++ oModel 1424).length = 1438 := by
  rw [List.length_append, oBureau_len]
  rfl
theorem cW0_1 : (cW0 z).1 = N0 := by
  show (oBureau 0 ++ oModel 1424).length + 1 = 1439
  rw [cH0_len]
theorem cW0_u : (cW0 z).2 q = va_up (va_up (bLk z (oBureau 0 ++ oModel 1424)) 1425 (.inl (0, 22176, .inl f0W))) 1438 (.inl (1, 1, .inr (.inl fun _ => 0))) q := by
  show va_up _ (oBureau 0 ++ oModel 1424).length _ q = _
  rw [cH0_len]
  rfl
theorem cW0_at {o : bO} (h : (oBureau 0 ++ oModel 1424)[q]? = some o) (hq : q ≠ 1425) : (cW0 z).2 q = bD o := by
  have hl := ap_lt h
  rw [cH0_len] at hl
  rw [cW0_u]
  unfold va_up
  rw [if_neg (by omega), if_neg hq]
  exact bLk_s h
theorem cW0_25 : (cW0 z).2 1425 = .inl (0, 22176, .inl f0W) := by
  rw [cW0_u]
  unfold va_up
  rw [if_neg (by decide), if_pos rfl]
theorem cW0_38 : (cW0 z).2 1438 = oE (fun _ => 0) := by
  rw [cW0_u]
  unfold va_up
  rw [if_pos rfl]
  rfl
theorem cW0_m {j : Nat} {o : bO} (h : (oModel 1424)[j]? = some o) (hj : j ≠ 1) : (cW0 z).2 (1424 + j) = bD o := cW0_at (ap_at (l := oBureau 0) (j := j) (by rw [oBureau_len]) h) (by omega)
theorem cW0_eq : cW0 z = lW (cW0 z) (fun _ => 0) cF0 (fun _ _ => 0) (fun _ => 0) m0W f0W (fun _ _ => 0) (fun _ _ => 0) := by
  refine Prod.ext rfl (funext fun q => ?_)
  show (cW0 z).2 q = cE cF0 (fun _ _ => 0) (fun _ => 0) q (rC m0W f0W (fun _ _ => 0) (fun _ _ => 0) q (va_up (cW0 z).2 1438 (oE (fun _ => 0)) q)) (shp q)
  rcases Nat.lt_or_ge q 1424 with h | h
  · have hl : q < (oBureau 0).length := by rw [oBureau_len]; exact h
    have ho := List.getElem?_eq_getElem hl
    have hf := fits_get _ 0 q _ fit_bureau ho
    rw [Nat.zero_add] at hf
    rw [cE_q (cF0_at ho), hf]
    exact cW0_at ((List.getElem?_append_left hl).trans ho) (by omega)
  · rw [shp_ge h]
    show (cW0 z).2 q = rC m0W f0W (fun _ _ => 0) (fun _ _ => 0) q (va_up (cW0 z).2 1438 (oE (fun _ => 0)) q)
    rcases Nat.lt_or_ge q 1438 with h2 | h2
    · obtain ⟨j, rfl⟩ : ∃ j, q = 1424 + j := ⟨q - 1424, by omega⟩
      rcases j with _ | _ | _ | _ | _ | _ | _ | _ | _ | _ | _ | _ | _ | _ | j
      · exact cW0_m (j := 0) rfl (by decide)
      · exact cW0_25
      · exact cW0_m (j := 2) rfl (by decide)
      · exact cW0_m (j := 3) rfl (by decide)
      · exact cW0_m (j := 4) rfl (by decide)
      · exact cW0_m (j := 5) rfl (by decide)
      · exact cW0_m (j := 6) rfl (by decide)
      · exact cW0_m (j := 7) rfl (by decide)
      · exact cW0_m (j := 8) rfl (by decide)
      · exact cW0_m (j := 9) rfl (by decide)
      · exact cW0_m (j := 10) rfl (by decide)
      · exact cW0_m (j := 11) rfl (by decide)
      · exact cW0_m (j := 12) rfl (by decide)
      · exact cW0_m (j := 13) rfl (by decide)
      · omega
    · rw [rC_o (Or.inr h2)]
      by_cases e : q = 1438
      · subst e
        unfold va_up
        rw [if_pos rfl]
        exact cW0_38
      · unfold va_up
        rw [if_neg e]
theorem Gs_0 : Gs (cW0 z) 0 (cW0 z) := ⟨_, _, _, _, _, _, _, _, 0, 0, 0, 0, 0, 0, 1, 0, fun _ => 0, cW0_eq, KI_0, by omega, RS_0, IV_0, GsB_0⟩
end WORLD0
