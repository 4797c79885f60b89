/-! soundness: the worlds of the abstract machine in the heap -/
abbrev aP : Type := va_G × (Nat → Nat) × Nat × (Nat → Nat) × aG
def adr (sz0 : Nat) (fx : Nat → Nat) (i : Nat) : Nat := if i < FB then sz0 + i else fx (i - FB)
def Pad (π : aP) : Nat → Nat := adr π.2.2.1 π.2.2.2.1
def PA (π : aP) : Nat → Prop := fun q => π.2.2.1 ≤ q
def tV (ad : Nat → Nat) : Value → Value
  | .ref i => .ref (ad i)
  | v => v
def tE (ad : Nat → Nat) (cA : Nat → Nat) : va_E → va_E
  | .inl (t, n, .inl f) => .inl (cA t, n, .inl f)
  | .inl (t, n, .inr (.inl f)) => .inl (cA t, n, .inr (.inl f))
  | .inl (t, n, .inr (.inr (.inl f))) => .inl (cA t, n, .inr (.inr (.inl f)))
  | .inl (t, n, .inr (.inr (.inr (.inl f)))) => .inl (cA t, n, .inr (.inr (.inr (.inl f))))
  | .inl (t, n, .inr (.inr (.inr (.inr f)))) => .inl (cA t, n, .inr (.inr (.inr (.inr (fun j => (f j).map ad)))))
  | .inr (ci, fs) => .inr (ci, fs.map (tV ad))
def wl (π : aP) (w : aW) : va_W := (List.range w.1).map fun i => (Pad π i, tE (Pad π) π.2.1 (w.2 i))
def tysL (π : aP) : List (ClassId × FieldType) := (List.range nTy).map fun t => (π.2.1 t, tyT t)
theorem wl_get {π : aP} {w : aW} {i : Nat} {e : va_E} (h : aAt w i e) : (wl π w)[i]? = some (Pad π i, tE (Pad π) π.2.1 e) := by
  obtain ⟨h1, h2⟩ := h
  simp [wl, List.getElem?_map, List.getElem?_range h1, h2]
theorem tys_get {π : aP} {t : Nat} (h : t < nTy) : (tysL π)[t]? = some (π.2.1 t, tyT t) := by
  simp [tysL, List.getElem?_map, List.getElem?_range h]
theorem wl_up {π : aP} {w : aW} {i : Nat} {e : va_E} : (wl π w).set i (Pad π i, tE (Pad π) π.2.1 e) = wl π (aUp w i e) := by
  apply List.ext_getElem?
  intro j
  by_cases hj : j < w.1
  · by_cases he : i = j
    · subst he
      simp [wl, aUp, va_up, List.getElem?_map, List.getElem?_range hj, hj]
    · have he2 : ¬ j = i := fun h => he h.symm
      simp [wl, aUp, va_up, List.getElem?_set, List.getElem?_map, List.getElem?_range hj, he, he2]
  · have h1 : (wl π (aUp w i e))[j]? = none := by simp [wl, aUp]; omega
    rw [h1]
    simp [wl]; omega
theorem wl_new {π : aP} {w : aW} {e : va_E} : wl π w ++ [(Pad π w.1, tE (Pad π) π.2.1 e)] = wl π (aNew w e) := by
  have h : (List.range w.1).map (fun i => (Pad π i, tE (Pad π) π.2.1 (w.2 i))) = (List.range w.1).map (fun i => (Pad π i, tE (Pad π) π.2.1 (va_up w.2 w.1 e i))) := by
    apply List.map_congr_left
    intro i hi
    have h2 : ¬ i = w.1 := Nat.ne_of_lt (List.mem_range.mp hi)
    simp [va_up, h2]
  show (List.range w.1).map _ ++ _ = (List.range (w.1 + 1)).map _
  rw [List.range_succ, List.map_append, h]
  simp [aNew, va_up]
theorem wl_len {π : aP} {w : aW} : (wl π w).length = w.1 := by simp [wl]
theorem Pad_lo {π : aP} {i : Nat} (h : i < FB) : Pad π i = π.2.2.1 + i := by simp [Pad, adr, h]
theorem Pad_hi {π : aP} {k : Nat} : Pad π (FB + k) = π.2.2.2.1 k := by
  have h : ¬ FB + k < FB := by omega
  unfold Pad adr
  rw [if_neg h, Nat.add_sub_cancel_left]
/-- locals -/
def LH (π : aP) (ls : Array Slot) (nL : Nat) (lo : List (Option Value)) : Prop := ls.size = nL ∧ lo.length = nL ∧ lv_wf ls ∧ ∀ (j : Nat) (v : Value), lo[j]? = some (some v) → ls[j]? = some (.val (tV (Pad π) v))
def prs (π : aP) (nL : Nat) (lo : List (Option Value)) : List (Nat × Value) := (List.range nL).filterMap fun j => match lo[j]? with
  | some (some v) => some (j, tV (Pad π) v)
  | _ => none
theorem prs_mem {π : aP} {nL : Nat} {lo : List (Option Value)} {q : Nat × Value} : q ∈ prs π nL lo ↔ q.1 < nL ∧ ∃ v, lo[q.1]? = some (some v) ∧ q.2 = tV (Pad π) v := by
  obtain ⟨j, x⟩ := q
  simp only [prs, List.mem_filterMap, List.mem_range]
  constructor
  · rintro ⟨k, hk, h⟩
    split at h
    · rename_i v hv
      cases h
      exact ⟨hk, v, hv, rfl⟩
    · cases h
  · rintro ⟨hk, v, hv, hx⟩
    refine ⟨j, hk, ?_⟩
    rw [hv]
    dsimp only
    rw [hx]
theorem LH.has {π : aP} {ls : Array Slot} {nL : Nat} {lo : List (Option Value)} (h : LH π ls nL lo) : lv_has ls nL (prs π nL lo) := by
  refine ⟨h.1, h.2.2.1, fun q hq => ?_⟩
  obtain ⟨h1, v, h2, h3⟩ := prs_mem.mp hq
  rw [h3]
  exact h.2.2.2 _ _ h2
theorem clr_len (lo : List (Option Value)) (a : Nat) : (clr lo a).length = lo.length := by
  unfold clr
  split
  · rfl
  · split
    · split <;> simp
    · rfl
theorem clr_get {lo : List (Option Value)} {a j : Nat} {v : Value} (h : (clr lo a)[j]? = some (some v)) : lo[j]? = some (some v) ∧ ¬ (j + 1 = a ∧ v.category = 2) := by
  unfold clr at h
  split at h
  · exact ⟨h, fun q => by omega⟩
  · rename_i k
    split at h
    · rename_i x hx
      split at h
      · rename_i hcat
        rw [List.getElem?_set] at h
        split at h
        · split at h <;> cases h
        · rename_i hne
          exact ⟨h, fun q => hne (by omega)⟩
      · rename_i hcat
        refine ⟨h, fun q => ?_⟩
        have hk : j = k := by omega
        subst hk
        rw [h] at hx
        cases hx
        exact hcat q.2
    · rename_i hx
      refine ⟨h, fun q => ?_⟩
      have hk : j = k := by omega
      subst hk
      exact hx v h
theorem tV_cat (ad : Nat → Nat) (v : Value) : (tV ad v).category = v.category := by cases v <;> rfl
/-- a store of one word -/
theorem LH.st1 {π : aP} {ls ls' : Array Slot} {nL a : Nat} {lo : List (Option Value)} {v : Value} {x : Value} (h : LH π ls nL lo) (ha : a < nL) (hx : x = tV (Pad π) v)
    (h' : lv_has ls' nL ((a, x) :: (prs π nL lo).filter (fun q => !(q.1 == a) && !(q.1 + 1 == a && q.2.category == 2)))) : LH π ls' nL ((clr lo a).set a (some v)) := by
  refine ⟨h'.1, by rw [List.length_set, clr_len]; exact h.2.1, h'.2.1, fun j u hu => ?_⟩
  rw [List.getElem?_set] at hu
  split at hu
  · rename_i he
    subst he
    split at hu
    · cases hu
      rw [← hx]
      exact h'.2.2 (a, x) List.mem_cons_self
    · cases hu
  · rename_i hne
    obtain ⟨h1, h2⟩ := clr_get hu
    have hj : j < nL := by
      have := (List.getElem?_eq_some_iff.mp h1).1
      rw [h.2.1] at this
      exact this
    refine h'.2.2 (j, tV (Pad π) u) (List.mem_cons_of_mem _ (List.mem_filter.mpr ⟨prs_mem.mpr ⟨hj, u, h1, rfl⟩, ?_⟩))
    have h3 : ¬ j = a := fun q => hne q.symm
    simp only [tV_cat, Bool.and_eq_true, Bool.not_eq_true', beq_eq_false_iff_ne, Bool.and_eq_false_imp, beq_iff_eq]
    refine ⟨h3, fun h4 => ?_⟩
    simpa using fun h5 => h2 ⟨h4, h5⟩
/-- a store of two words -/
theorem LH.st2 {π : aP} {ls ls' : Array Slot} {nL a : Nat} {lo : List (Option Value)} {v : Value} {x : Value} (h : LH π ls nL lo) (ha : a + 1 < nL) (hx : x = tV (Pad π) v)
    (h' : lv_has ls' nL ((a, x) :: (prs π nL lo).filter (fun q => !(q.1 == a) && (!(q.1 == a + 1) && !(q.1 + 1 == a && q.2.category == 2))))) : LH π ls' nL (((clr lo a).set a (some v)).set (a + 1) none) := by
  refine ⟨h'.1, by rw [List.length_set, List.length_set, clr_len]; exact h.2.1, h'.2.1, fun j u hu => ?_⟩
  rw [List.getElem?_set] at hu
  split at hu
  · split at hu <;> cases hu
  · rename_i hne1
    rw [List.getElem?_set] at hu
    split at hu
    · rename_i he
      subst he
      split at hu
      · cases hu
        rw [← hx]
        exact h'.2.2 (a, x) List.mem_cons_self
      · cases hu
    · rename_i hne
      obtain ⟨h1, h2⟩ := clr_get hu
      have hj : j < nL := by
        have := (List.getElem?_eq_some_iff.mp h1).1
        rw [h.2.1] at this
        exact this
      refine h'.2.2 (j, tV (Pad π) u) (List.mem_cons_of_mem _ (List.mem_filter.mpr ⟨prs_mem.mpr ⟨hj, u, h1, rfl⟩, ?_⟩))
      have h3 : ¬ j = a := fun q => hne q.symm
      have h4 : ¬ j = a + 1 := fun q => hne1 q.symm
      simp only [tV_cat, Bool.and_eq_true, Bool.not_eq_true', beq_eq_false_iff_ne, Bool.and_eq_false_imp, beq_iff_eq]
      refine ⟨h3, h4, fun h4 => ?_⟩
      simpa using fun h5 => h2 ⟨h4, h5⟩
/-- what is fixed, outside the world -/
def FxS (π : aP) (U : State) (H : Heap) : Prop :=
  (vx_Zq Bundle.tN "UNASSIGNED_STACK" Bundle.steD (PA π) U H ∧ vx_Zq Bundle.tN "SUPPRESSED_SENTINEL" Bundle.listD (PA π) U H) ∧
  (∀ k t n f, π.2.2.2.2.1 k = some (t, n, f) → (t = 0 ∨ t = 2) ∧ va_T (tyT t) (π.2.2.2.1 k) n (fun j => .int (f j)) (PA π) U H) ∧
  (∀ k, k < 100 → (π.2.2.2.2.1 (k + 100)).isSome = true → va_O "java/lang/String" (π.2.2.2.1 k) (PA π) U H ∧ va_OF "java/lang/String" "coder" "B" (.int 0) (π.2.2.2.1 k) (PA π) U H ∧ va_OF "java/lang/String" "value" "[B" (.ref (π.2.2.2.1 (k + 100))) (π.2.2.2.1 k) (PA π) U H) ∧
  (∀ a, a < 4 → va_Z (stT a).1 (stT a).2.1 (stT a).2.2 (tV (Pad π) (π.2.2.2.2.2 a)) (PA π) U H) ∧
  (∀ q ∈ strTab, ∃ sa, vk_R q.1 q.2.1 q.2.2.1 sa U ∧ (q.2.2.2 < 100 → sa = π.2.2.2.1 q.2.2.2)) ∧
  (∀ w ∈ lw_tbl, warmW w = true → va_Nw w U) ∧
  (∀ a b, a < 4 → b < 4 → a ≠ b → va_Nc (exN a) (exN b) U) ∧
  (∀ t C, 4 ≤ t → t < nTy → tyT t = .object C → va_AO C U)
theorem warm_of {w : Cond} (hw : warmW w = true) {s U : State} (hW : s.WarmedH U.vm) (h : va_Nw w s) : va_Nw w U := by
  cases w <;> first | exact va_Nw.warmM hW h | exact va_Nw.warmC hW h | exact va_Nw.warmD hW h | exact absurd hw (by simp [warmW])
theorem FxS.to {π : aP} {s U : State} {H0 H : Heap} (h : FxS π s H0) (hW : s.WarmedH U.vm) (hq : ∀ a : Nat, a < H0.size → ¬ PA π a → H[a]? = H0[a]?) : FxS π U H := by
  obtain ⟨⟨h1, h2⟩, h3, h4, h5, h6, h7, h8, h9⟩ := h
  refine ⟨⟨(h1.kept hq).moved hW.alike, (h2.kept hq).moved hW.alike⟩, fun k t n f hk => ⟨(h3 k t n f hk).1, ((h3 k t n f hk).2.kept hq).moved hW.alike⟩, fun k hk hs => ?_, fun a ha => ((h5 a ha).kept hq).moved hW.alike, fun q hqm => ?_, fun w hw hww => warm_of hww hW (h7 w hw hww), fun a b ha hb hab => (h8 a b ha hb hab).moved hW.alike, fun t C h1 h2 h3 => (h9 t C h1 h2 h3).moved hW.alike⟩
  · obtain ⟨a1, a2, a3⟩ := h4 k hk hs
    exact ⟨(a1.kept hq).moved hW.alike, (a2.kept hq).moved hW.alike, (a3.kept hq).moved hW.alike⟩
  · obtain ⟨sa, a1, a2⟩ := h6 q hqm
    exact ⟨sa, a1.warm hW, a2⟩
/-- the frame that a method runs in -/
def CTX (π : aP) (own : String) (cc : ByteArray) (nL nb : Nat) (p : Program) (s : State) (m : MethodId) (args : Array Value) (c : Code) : Prop :=
  p.tables.exec = Jvm.exec ∧ c.code = cc ∧ c.maxLocals = nL ∧ s.vm.findClass own = some m.cls ∧ (∀ w ∈ WS, w.before args s = true) ∧ va_K π.1 vwCl (tysL π) s ∧ FxS π s s.heap ∧ π.2.2.1 ≤ s.heap.size ∧ (nb < N0 → s.heap.size = π.2.2.1 + nb)
def InvW (π : aP) (w : aW) (s : State) (H : Heap) (locs : List Loc) : Prop :=
  va_P π.1 vwCl (wl π w) H ∧ va_D (PA π) (wl π w) ∧ va_S (PA π) s.heap H locs ∧ w.1 ≤ N0
theorem N0_FB : N0 < FB := Nat.le_of_ble_eq_true rfl
theorem InvW.lo {π : aP} {w : aW} {s : State} {H : Heap} {locs : List Loc} (h : InvW π w s H locs) (hs : π.2.2.1 ≤ s.heap.size) : π.2.2.1 + w.1 ≤ H.size := by
  obtain ⟨h1, h2, h3, h4⟩ := h
  cases hw : w.1 with
  | zero => have := h3.1; omega
  | succ k =>
    have h5 : (wl π w)[k]? = some (Pad π k, tE (Pad π) π.2.1 (w.2 k)) := wl_get ⟨by omega, rfl⟩
    have h6 := vx_lt h1 h5
    have h7 : Pad π k = π.2.2.1 + k := Pad_lo (by have := N0_FB; omega)
    dsimp only at h6
    rw [h7] at h6
    omega
/-- each class: its words, its fields' types and names -/
theorem cls_ws : (vwCl.all fun q => (u_ws q.1 q.2.1 q.2.2).all fun w => decide (w ∈ lw_tbl) && goodWord w) = true := by decide +kernel
theorem cls_in {ci : Nat} {C : String} {T : u_T} {N : Nat} (h : vwCl[ci]? = some (C, T, N)) : ∀ w ∈ u_ws C T N, w ∈ WS := by
  intro w hw
  have h1 := List.all_eq_true.mp cls_ws _ (List.mem_of_getElem? h)
  have h2 := List.all_eq_true.mp h1 w hw
  simp only [Bool.and_eq_true, decide_eq_true_eq] at h2
  exact List.mem_filter.mpr h2
theorem cls_ty {ci : Nat} {C : String} {T : u_T} {N : Nat} (h : vwCl[ci]? = some (C, T, N)) : ∀ k, k < N → parseFieldDescriptor (T k).2.2.1 = some (ftyA ci k) := by
  match ci, h with
  | 0, h => cases h; exact tyX0_ok
  | 1, h => cases h; exact tyX1_ok
  | 2, h => cases h; exact tyX2_ok
  | 3, h => cases h; exact tyX3_ok
  | 4, h => cases h; exact tyX4_ok
  | 5, h => cases h; exact tyX5_ok
  | 6, h => cases h; exact tyX6_ok
  | 7, h => cases h; exact tyX7_ok
  | 8, h => cases h; exact tyX8_ok
  | 9, h => cases h; exact tyX9_ok
  | 10, h => cases h; exact tyX10_ok
  | 11, h => cases h; exact tyX11_ok
  | k + 12, h => simp [vwCl] at h
theorem cls_nm {ci : Nat} {C : String} {T : u_T} {N : Nat} (h : vwCl[ci]? = some (C, T, N)) : ∀ a, a < N → ∀ b, b < N → a ≠ b → (T a).2.1 ≠ (T b).2.1 := by
  match ci, h with
  | 0, h => cases h; exact nmX0
  | 1, h => cases h; exact nmX1
  | 2, h => cases h; exact nmX2
  | 3, h => cases h; exact nmX3
  | 4, h => cases h; exact nmX4
  | 5, h => cases h; exact nmX5
  | 6, h => cases h; exact nmX6
  | 7, h => cases h; exact nmX7
  | 8, h => cases h; exact nmX8
  | 9, h => cases h; exact nmX9
  | 10, h => cases h; exact nmX10
  | 11, h => cases h; exact nmX11
  | k + 12, h => simp [vwCl] at h
theorem tV_nar {ad : Nat → Nat} {ty : FieldType} {v : Value} (h : narrow ty v = v) : narrow ty (tV ad v) = tV ad v := by
  cases v <;> first | exact h | (cases ty <;> rfl)
theorem tV_fit {ad : Nat → Nat} {ty : FieldType} {v : Value} (h : fits ty v = true) : fits ty (tV ad v) = true := by
  cases v <;> first | exact h | (cases ty <;> first | rfl | exact h)
