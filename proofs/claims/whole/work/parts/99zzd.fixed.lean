/-! the start: what is fixed lies as the abstract machine has it -/
def gB (L : Nat) (xs : Nat → Int32) (z : Value) : aG := (fun k => if k = 300 then some (0, L, xs) else if k = 200 then some (0, 8, riX) else if k = 201 then some (0, 8, riY) else if 100 ≤ k ∧ k < 120 then some (2, txN (k - 100), txC (k - 100)) else none, fun a => match a with
  | 0 => .ref (FB + 200)
  | 1 => .ref (FB + 201)
  | 2 => .int 1
  | _ => z)
def fxB (aK aV : Nat → Nat) (b tx ty tz : Nat) : Nat → Nat := fun k => if k = 300 then b else if k = 200 then tx else if k = 201 then ty else if k = 301 then tz else if k < 100 then aK k else aV (k - 100)
theorem fxB_k {aK aV : Nat → Nat} {b tx ty tz k : Nat} (h : k < 100) : fxB aK aV b tx ty tz k = aK k := by
  unfold fxB
  rw [if_neg (by omega), if_neg (by omega), if_neg (by omega), if_neg (by omega), if_pos h]
theorem fxB_v {aK aV : Nat → Nat} {b tx ty tz k : Nat} (h : 100 ≤ k) (h2 : k < 200) : fxB aK aV b tx ty tz k = aV (k - 100) := by
  unfold fxB
  rw [if_neg (by omega), if_neg (by omega), if_neg (by omega), if_neg (by omega), if_neg (by omega)]
theorem gB_text {L k : Nat} {xs : Nat → Int32} {z : Value} (h : k < 20) : (gB L xs z).1 (k + 100) = some (2, txN k, txC k) := by
  unfold gB
  dsimp only
  rw [if_neg (by omega), if_neg (by omega), if_neg (by omega), if_pos (by omega), Nat.add_sub_cancel]
theorem gB_lt {L k : Nat} {xs : Nat → Int32} {z : Value} (hk : k < 100) (h : ((gB L xs z).1 (k + 100)).isSome = true) : k < 20 := by
  rcases Nat.lt_or_ge k 20 with h2 | h2
  · exact h2
  · exfalso
    unfold gB at h
    dsimp only at h
    rw [if_neg (by omega), if_neg (by omega), if_neg (by omega), if_neg (by omega)] at h
    cases h
theorem gB_HRi {L : Nat} {xs : Nat → Int32} {z : Value} : HRi (gB L xs z) := ⟨rfl, rfl, rfl, rfl⟩
theorem gB_HTx {L : Nat} {xs : Nat → Int32} {z : Value} (hz : z.category = 1) : HTx (gB L xs z) := ⟨fun k hk => ⟨by omega, gB_text hk, tx_len hk, rfl⟩, hz⟩
/-- rows of ridges -/
theorem ri_nar : ((List.range 8).all fun j => decide (narL[9 + j]? = some (Jvm.Cond.eq (.elem (.static "RidgeBureau$Print" "RIDGES_ALONG_X" "[I") (.int (Int32.ofNat j))) (.int (riX j)))) && decide (narL[20 + j]? = some (Jvm.Cond.eq (.elem (.static "RidgeBureau$Print" "RIDGES_ALONG_Y" "[I") (.int (Int32.ofNat j))) (.int (riY j))))) = true := by decide +kernel
theorem nar_ok : narL[4]? = some (Jvm.Cond.isRef (.static "java/lang/Throwable" "UNASSIGNED_STACK" "[Ljava/lang/StackTraceElement;")) ∧ narL[5]? = some (Jvm.Cond.isRef (.static "java/lang/Throwable" "SUPPRESSED_SENTINEL" "Ljava/util/List;")) ∧ narL[7]? = some (Jvm.Cond.arrayOf (.static "RidgeBureau$Print" "RIDGES_ALONG_X" "[I") .int) ∧ narL[8]? = some (Jvm.Cond.eq (.length (.static "RidgeBureau$Print" "RIDGES_ALONG_X" "[I")) (.int (Int32.ofNat 8))) ∧ narL[18]? = some (Jvm.Cond.arrayOf (.static "RidgeBureau$Print" "RIDGES_ALONG_Y" "[I") .int) ∧ narL[19]? = some (Jvm.Cond.eq (.length (.static "RidgeBureau$Print" "RIDGES_ALONG_Y" "[I")) (.int (Int32.ofNat 8))) ∧ narL[28]? = some (Jvm.Cond.eq (.static "java/lang/String" "COMPACT_STRINGS" "Z") (.int 1)) ∧ narL[29]? = some (Jvm.Cond.isRef (.static "jdk/internal/util/Preconditions" "SIOOBE_FORMATTER" "Ljava/util/function/BiFunction;")) := by decide +kernel
theorem lay_ok : lw_tbl[831]? = some (Jvm.Cond.laysStatic "java/lang/Throwable" "UNASSIGNED_STACK" "[Ljava/lang/StackTraceElement;") ∧ lw_tbl[833]? = some (Jvm.Cond.laysStatic "java/lang/Throwable" "SUPPRESSED_SENTINEL" "Ljava/util/List;") ∧ lw_tbl[919]? = some (Jvm.Cond.laysStatic "RidgeBureau$Print" "RIDGES_ALONG_X" "[I") ∧ lw_tbl[924]? = some (Jvm.Cond.laysStatic "RidgeBureau$Print" "RIDGES_ALONG_Y" "[I") ∧ lw_tbl[1213]? = some (Jvm.Cond.laysStatic "java/lang/String" "COMPACT_STRINGS" "Z") ∧ lw_tbl[1229]? = some (Jvm.Cond.laysStatic "jdk/internal/util/Preconditions" "SIOOBE_FORMATTER" "Ljava/util/function/BiFunction;") := by decide +kernel
theorem ini_ok : lw_tbl[118]? = some (Jvm.Cond.initialized "java/lang/Throwable") ∧ lw_tbl[111]? = some (Jvm.Cond.initialized "RidgeBureau$Print") ∧ lw_tbl[127]? = some (Jvm.Cond.initialized "java/lang/String") ∧ lw_tbl[129]? = some (Jvm.Cond.initialized "jdk/internal/util/Preconditions") := by decide +kernel
theorem bn_ok : Bundle.tN = "java/lang/Throwable" ∧ Bundle.steD = "[Ljava/lang/StackTraceElement;" ∧ Bundle.listD = "Ljava/util/List;" := by decide +kernel
theorem fx_start {s : State} {args : Array Value} {b L : Nat} {xs : Nat → Int32} (D : va_G) (cA : Nat → Nat) (hts : ∀ w ∈ lw_tbl, w.before args s = true) (hgv : (Jvm.Cond.and given_1 narrow_1).before args s = true) (hX : va_X b L xs s s.heap) (hbl : b < s.heap.size) : ∃ (fx : Nat → Nat) (z : Value), z.category = 1 ∧ fx 300 = b ∧ FxS (D, cA, s.heap.size, fx, gB L xs z) s s.heap := by
  have hA : ∀ a : Nat, a < s.heap.size → ¬ (fun q : Nat => s.heap.size ≤ q) a := fun a h h2 => Nat.not_le.mpr h h2
  obtain ⟨n1, n2, n3, n4, n5, n6, n7, n8⟩ := nar_ok
  obtain ⟨l1, l2, l3, l4, l5, l6⟩ := lay_ok
  obtain ⟨i1, i2, i3, i4⟩ := ini_ok
  obtain ⟨b1, b2, b3⟩ := bn_ok
  have hri : ∀ j, j < 8 → narL[9 + j]? = some (Jvm.Cond.eq (.elem (.static "RidgeBureau$Print" "RIDGES_ALONG_X" "[I") (.int (Int32.ofNat j))) (.int (riX j))) ∧ narL[20 + j]? = some (Jvm.Cond.eq (.elem (.static "RidgeBureau$Print" "RIDGES_ALONG_Y" "[I") (.int (Int32.ofNat j))) (.int (riY j))) := by
    intro j hj
    have h1 := List.all_eq_true.mp ri_nar j (List.mem_range.mpr hj)
    simp only [Bool.and_eq_true, decide_eq_true_eq] at h1
    exact h1
  obtain ⟨aK, aV, hK⟩ := tx_there (A := fun q : Nat => s.heap.size ≤ q) hgv hA
  obtain ⟨tx, hx1, hx2⟩ := va_Tof (f := fun j => .int (riX j)) (A := fun q : Nat => s.heap.size ≤ q) (N := 8) (by decide) (narL_at hgv _ n3) (va_eqt (narL_at hgv _ n4)) (fun j hj => va_eqt (narL_at hgv _ (hri j hj).1)) hA
  obtain ⟨ty, hy1, hy2⟩ := va_Tof (f := fun j => .int (riY j)) (A := fun q : Nat => s.heap.size ≤ q) (N := 8) (by decide) (narL_at hgv _ n5) (va_eqt (narL_at hgv _ n6)) (fun j hj => va_eqt (narL_at hgv _ (hri j hj).2)) hA
  have hx3 := va_Zof (A := fun q : Nat => s.heap.size ≤ q) (tbl_at hts _ l3) (tbl_at hts _ i2) hx1 hA
  have hy3 := va_Zof (A := fun q : Nat => s.heap.size ≤ q) (tbl_at hts _ l4) (tbl_at hts _ i2) hy1 hA
  have hc3 := va_Zof (A := fun q : Nat => s.heap.size ≤ q) (tbl_at hts _ l5) (tbl_at hts _ i3) (va_eqi (narL_at hgv _ n7)) hA
  have hz : ∃ (tz : Nat) (z : Value), z.category = 1 ∧ ∀ ad : Nat → Nat, ad (FB + 301) = tz → va_Z "jdk/internal/util/Preconditions" "SIOOBE_FORMATTER" "Ljava/util/function/BiFunction;" (tV ad z) (fun q : Nat => s.heap.size ≤ q) s s.heap := by
    rcases va_Zqof (A := fun q : Nat => s.heap.size ≤ q) (tbl_at hts _ l6) (tbl_at hts _ i4) (narL_at hgv _ n8) hA with h | ⟨t9, h⟩
    · exact ⟨0, .null, rfl, fun ad _ => h⟩
    · refine ⟨t9, .ref (FB + 301), rfl, fun ad h9 => ?_⟩
      show va_Z _ _ _ (.ref (ad (FB + 301))) _ _ _
      rw [h9]
      exact h
  obtain ⟨tz, z, hz1, hz2⟩ := hz
  have hU : vx_Zq Bundle.tN "UNASSIGNED_STACK" Bundle.steD (fun q : Nat => s.heap.size ≤ q) s s.heap := by
    rw [b1, b2]
    exact vx_Zqof (tbl_at hts _ l1) (tbl_at hts _ i1) (narL_at hgv _ n1) hA
  have hN : vx_Zq Bundle.tN "SUPPRESSED_SENTINEL" Bundle.listD (fun q : Nat => s.heap.size ≤ q) s s.heap := by
    rw [b1, b3]
    exact vx_Zqof (tbl_at hts _ l2) (tbl_at hts _ i1) (narL_at hgv _ n2) hA
  have hB : va_T .int b L (fun j => .int (xs j)) (fun q : Nat => s.heap.size ≤ q) s s.heap := by
    obtain ⟨scr, x1, x2, x3, x4, x5⟩ := hX
    exact ⟨scr, x1, x2, x3, Nat.le_of_eq x4.symm, by rw [x4] <;> rfl, x5, hA b hbl⟩
  refine ⟨fxB aK aV b tx ty tz, z, hz1, rfl, ⟨hU, hN⟩, fun k t n f hk => ?_, fun k hk hs => ?_, fun a ha => ?_, fun q hq => ?_, warm_there hts, nc_there hgv, ovr_there hts⟩
  · have hk9 : (gB L xs z).1 k = some (t, n, f) := hk
    show (t = 0 ∨ t = 2) ∧ va_T (tyT t) (fxB aK aV b tx ty tz k) n (fun j => .int (f j)) (fun q : Nat => s.heap.size ≤ q) s s.heap
    unfold gB at hk9
    dsimp only at hk9
    split at hk9
    · rename_i h0
      cases hk9
      subst h0
      exact ⟨Or.inl rfl, hB⟩
    · split at hk9
      · rename_i h0
        cases hk9
        subst h0
        exact ⟨Or.inl rfl, hx2⟩
      · split at hk9
        · rename_i h0
          cases hk9
          subst h0
          exact ⟨Or.inl rfl, hy2⟩
        · split at hk9
          · rename_i h0
            cases hk9
            rw [fxB_v h0.1 (by omega)]
            exact ⟨Or.inr rfl, (hK (k - 100) (by omega)).2.2.2.2⟩
          · cases hk9
  · have hlt := gB_lt hk hs
    obtain ⟨-, k1, k2, k3, -⟩ := hK k hlt
    show va_O _ (fxB aK aV b tx ty tz k) (fun q : Nat => s.heap.size ≤ q) s s.heap ∧ va_OF _ _ _ _ (fxB aK aV b tx ty tz k) (fun q : Nat => s.heap.size ≤ q) s s.heap ∧ va_OF _ _ _ (.ref (fxB aK aV b tx ty tz (k + 100))) (fxB aK aV b tx ty tz k) (fun q : Nat => s.heap.size ≤ q) s s.heap
    rw [fxB_k hk, fxB_v (by omega) (by omega), Nat.add_sub_cancel]
    exact ⟨k1, k2, k3⟩
  · rcases (show a = 0 ∨ a = 1 ∨ a = 2 ∨ a = 3 by omega) with rfl | rfl | rfl | rfl
    · show va_Z _ _ _ (.ref (Pad (D, cA, s.heap.size, fxB aK aV b tx ty tz, gB L xs z) (FB + 200))) _ _ _
      rw [Pad_hi]
      exact hx3
    · show va_Z _ _ _ (.ref (Pad (D, cA, s.heap.size, fxB aK aV b tx ty tz, gB L xs z) (FB + 201))) _ _ _
      rw [Pad_hi]
      exact hy3
    · exact hc3
    · exact hz2 _ (Pad_hi (π := (D, cA, s.heap.size, fxB aK aV b tx ty tz, gB L xs z)) (k := 301))
  · obtain ⟨sa, h1, h2⟩ := str_there hts hgv (fun k hk => (hK k hk).1) q hq
    refine ⟨sa, h1, fun h9 => ?_⟩
    show sa = fxB aK aV b tx ty tz q.2.2.2
    rw [fxB_k h9]
    exact h2 h9
