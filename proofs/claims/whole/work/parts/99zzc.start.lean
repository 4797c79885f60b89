/-! the start: what the statement gives of it, by places -/
def narL : List Cond := flatC (Jvm.Cond.and given_1 narrow_1)
theorem narL_at {args : Array Value} {s : State} (h : (Jvm.Cond.and given_1 narrow_1).before args s = true) {c : Cond} (i : Nat) (hi : narL[i]? = some c) : c.before args s = true := flat_of_before _ h c (List.mem_of_getElem? hi)
theorem tbl_at {args : Array Value} {s : State} (h : ∀ w ∈ lw_tbl, w.before args s = true) {c : Cond} (i : Nat) (hi : lw_tbl[i]? = some c) : c.before args s = true := h c (List.mem_of_getElem? hi)
/-- the fixed texts: class, place in its pool, place of the first thing said of it -/
def tmL : List (String × Nat × Nat) := [("RidgeBureau$Tape", 59, 469), ("RidgeBureauModel", 321, 740), ("RidgeBureauModel", 323, 748), ("RidgeBureauModel", 325, 757), ("RidgeBureauModel", 327, 765), ("RidgeBureauModel", 329, 776), ("RidgeBureauModel", 331, 784), ("RidgeBureauModel", 333, 794), ("RidgeBureauModel", 279, 800), ("RidgeBureauModel", 290, 807), ("RidgeBureauModel", 292, 816), ("RidgeBureauModel", 294, 825), ("RidgeBureauModel", 296, 836), ("RidgeBureauModel", 298, 846), ("RidgeBureauModel", 300, 855), ("RidgeBureauModel", 302, 866), ("RidgeBureauModel", 304, 876), ("RidgeBureauModel", 306, 885), ("RidgeBureauModel", 311, 892), ("RidgeBureauModel", 316, 899)]
def tmK (k : Nat) : Term := match tmL[k]? with
  | some q => .string q.1 q.2.1
  | none => .null
def tmP (k : Nat) : Nat := match tmL[k]? with
  | some q => q.2.2
  | none => 0
def txA (k i : Nat) : Cond := match i with
  | 0 => .exactly (tmK k) "java/lang/String"
  | 1 => .eq (.field (tmK k) "java/lang/String" "coder" "B") (.int 0)
  | 2 => .arrayOf (.field (tmK k) "java/lang/String" "value" "[B") .byte
  | 3 => .eq (.length (.field (tmK k) "java/lang/String" "value" "[B")) (.int (Int32.ofNat (txN k)))
  | j + 4 => .eq (.elem (.field (tmK k) "java/lang/String" "value" "[B") (.int (Int32.ofNat j))) (.int (txC k j))
theorem tx_nar : ((List.range 20).all fun k => decide ((narL.drop (tmP k)).take (txN k + 4) = (List.range (txN k + 4)).map (txA k))) = true := by decide +kernel
theorem tx_len9 : ((List.range 20).all fun k => decide (txN k < 200)) = true := by decide +kernel
theorem tx_len {k : Nat} (hk : k < 20) : txN k < 2 ^ 31 := Nat.lt_trans (of_decide_eq_true (List.all_eq_true.mp tx_len9 k (List.mem_range.mpr hk))) (by decide)
theorem tx_at {args : Array Value} {s : State} (h : (Jvm.Cond.and given_1 narrow_1).before args s = true) {k : Nat} (i : Nat) (hk : k < 20) (hi : i < txN k + 4) : (txA k i).before args s = true := by
  have h1 := of_decide_eq_true (List.all_eq_true.mp tx_nar k (List.mem_range.mpr hk))
  have h2 : ((narL.drop (tmP k)).take (txN k + 4))[i]? = some (txA k i) := by
    rw [h1, List.getElem?_map, List.getElem?_range hi]
    rfl
  rw [List.getElem?_take, if_pos hi, List.getElem?_drop] at h2
  exact narL_at h _ h2
/-- the fixed texts' objects and bytes -/
theorem tx_there {args : Array Value} {s : State} {A : Nat → Prop} (h : (Jvm.Cond.and given_1 narrow_1).before args s = true) (hA : ∀ a : Nat, a < s.heap.size → ¬ A a) : ∃ aK aV : Nat → Nat, ∀ k, k < 20 → (tmK k).eval args s none [] s = some (.ref (aK k)) ∧ va_O "java/lang/String" (aK k) A s s.heap ∧ va_OF "java/lang/String" "coder" "B" (.int 0) (aK k) A s s.heap ∧ va_OF "java/lang/String" "value" "[B" (.ref (aV k)) (aK k) A s s.heap ∧ va_T .byte (aV k) (txN k) (fun j => .int (txC k j)) A s s.heap := by
  have h0 : ∀ k : Nat, ∃ q : Nat × Nat, k < 20 → (tmK k).eval args s none [] s = some (.ref q.1) ∧ va_O "java/lang/String" q.1 A s s.heap ∧ va_OF "java/lang/String" "coder" "B" (.int 0) q.1 A s s.heap ∧ va_OF "java/lang/String" "value" "[B" (.ref q.2) q.1 A s s.heap ∧ va_T .byte q.2 (txN k) (fun j => .int (txC k j)) A s s.heap := by
    intro k
    by_cases hk : k < 20
    · have e0 : (Jvm.Cond.exactly (tmK k) "java/lang/String").before args s = true := tx_at h 0 hk (by omega)
      have e1 : (Jvm.Cond.eq (.field (tmK k) "java/lang/String" "coder" "B") (.int 0)).before args s = true := tx_at h 1 hk (by omega)
      have e2 : (Jvm.Cond.arrayOf (.field (tmK k) "java/lang/String" "value" "[B") .byte).before args s = true := tx_at h 2 hk (by omega)
      have e3 : (Jvm.Cond.eq (.length (.field (tmK k) "java/lang/String" "value" "[B")) (.int (Int32.ofNat (txN k)))).before args s = true := tx_at h 3 hk (by omega)
      have e4 : ∀ j, j < txN k → (Jvm.Cond.eq (.elem (.field (tmK k) "java/lang/String" "value" "[B") (.int (Int32.ofNat j))) (.int (txC k j))).before args s = true := fun j hj => tx_at h (j + 4) hk (by omega)
      obtain ⟨a, c, c9, k9, q1, q2, q3, q4, q5, q6, -⟩ := Cond.exactly_spec (args := args) (first := s) (o := none) (s := s) (idx := []) (t := tmK k) (cls := "java/lang/String") e0
      obtain ⟨t, ht, hT⟩ := va_Tof (f := fun j => .int (txC k j)) (A := A) (tx_len hk) e2 (va_eqt e3) (fun j hj => va_eqt (e4 j hj)) hA
      exact ⟨(a, t), fun _ => ⟨q1, va_Oof e0 q1 hA, vk_OFof q1 (va_eqt e1) hA, vk_OFof q1 ht hA, hT⟩⟩
    · exact ⟨(0, 0), fun h => absurd h hk⟩
  obtain ⟨f, hf⟩ := Classical.axiomOfChoice h0
  exact ⟨fun k => (f k).1, fun k => (f k).2, hf⟩
/-- every text that is loaded -/
def strP : List (Nat × Nat) := [(846, 161), (882, 182), (951, 205), (958, 222), (966, 238), (1003, 256), (1012, 273), (1013, 294), (1030, 316), (1038, 332), (1056, 349), (1074, 365), (1075, 381), (1092, 403), (1097, 419), (1105, 437), (1177, 454), (1203, 469), (1305, 581), (1344, 603), (1345, 623), (1402, 643), (1430, 664), (1438, 680), (1492, 701), (1526, 725), (1899, 740), (1906, 748), (1907, 757), (1908, 765), (1909, 776), (1910, 784), (1915, 794), (1932, 800), (1937, 807), (1938, 816), (1939, 825), (1940, 836), (1941, 846), (1942, 855), (1943, 866), (1944, 876), (1945, 885), (1946, 892), (1947, 899)]
theorem str_ok : ((List.range 45).all fun i => match strTab[i]?, strP[i]? with
  | some q, some p => decide (lw_tbl[p.1]? = some (Jvm.Cond.stringRef q.1 q.2.1 q.2.2.1)) && decide (narL[p.2]? = some (Jvm.Cond.exactly (.string q.1 q.2.1) "java/lang/String")) && (decide (100 ≤ q.2.2.2) || (decide (q.2.2.2 < 20) && decide (Term.string q.1 q.2.1 = tmK q.2.2.2)))
  | _, _ => false) = true := by decide +kernel
theorem str_len : strTab.length = 45 := by decide +kernel
theorem str_there {args : Array Value} {s : State} {aK : Nat → Nat} (hts : ∀ w ∈ lw_tbl, w.before args s = true) (h : (Jvm.Cond.and given_1 narrow_1).before args s = true) (hK : ∀ k, k < 20 → (tmK k).eval args s none [] s = some (.ref (aK k))) : ∀ q ∈ strTab, ∃ sa, vk_R q.1 q.2.1 q.2.2.1 sa s ∧ (q.2.2.2 < 100 → sa = aK q.2.2.2) := by
  intro q hq
  obtain ⟨i, hi⟩ := List.getElem?_of_mem hq
  have hl : i < 45 := by
    rw [← str_len]
    exact (List.getElem?_eq_some_iff.mp hi).1
  have h1 := List.all_eq_true.mp str_ok i (List.mem_range.mpr hl)
  rw [hi] at h1
  split at h1
  · rename_i q9 p hq9 hp
    cases hq9
    simp only [Bool.and_eq_true, Bool.or_eq_true, decide_eq_true_eq] at h1
    obtain ⟨⟨e1, e2⟩, e3⟩ := h1
    obtain ⟨a, c, c9, k9, q1, -⟩ := Cond.exactly_spec (args := args) (first := s) (o := none) (s := s) (idx := []) (t := Term.string q.1 q.2.1) (cls := "java/lang/String") (narL_at h _ e2)
    refine ⟨a, vk_R.of (tbl_at hts _ e1) q1, fun h9 => ?_⟩
    rcases e3 with e3 | ⟨e3, e4⟩
    · omega
    · have h5 := hK _ e3
      rw [← e4] at h5
      exact Value.ref.inj (Option.some.inj (q1.symm.trans h5))
  · cases h1
/-- the classes and the rows' classes -/
theorem cls_inst : (vwCl.all fun q => decide (Jvm.Cond.instantiable q.1 q.2.2 ∈ lw_tbl)) = true := by decide +kernel
theorem cls_there {args : Array Value} {s : State} (hts : ∀ w ∈ lw_tbl, w.before args s = true) : ∃ D : va_G, ∀ (c : Nat) (q : vw_C), vwCl[c]? = some q → u_Kn s q.1 q.2.1 q.2.2 (D.1 c) (D.2 c) := by
  have h0 : ∀ c : Nat, ∃ p : ClassId × (Nat → Nat), ∀ q : vw_C, vwCl[c]? = some q → u_Kn s q.1 q.2.1 q.2.2 p.1 p.2 := by
    intro c
    rcases hc : vwCl[c]? with _ | q
    · exact ⟨(0, fun _ => 0), fun q h => by cases h⟩
    · obtain ⟨C, T, N⟩ := q
      have hi := of_decide_eq_true (List.all_eq_true.mp cls_inst _ (List.mem_of_getElem? hc))
      obtain ⟨cC, iS, hk⟩ := u_known (C := C) (T := T) (N := N) (n := N) (ws := WS) (fun w hw => hts w (List.mem_filter.mp hw).1) (cls_in hc) (hts _ hi)
      exact ⟨(cC, iS), fun q h => by cases h; exact hk⟩
  obtain ⟨f, hf⟩ := Classical.axiomOfChoice h0
  exact ⟨(fun c => (f c).1, fun c => (f c).2), fun c q hq => hf c q hq⟩
theorem arr_ok : lw_tbl[175]? = some (Jvm.Cond.arrayClass .int) ∧ lw_tbl[494]? = some (Jvm.Cond.arrayClass .long) ∧ lw_tbl[872]? = some (Jvm.Cond.arrayClass .byte) ∧ lw_tbl[1622]? = some (Jvm.Cond.arrayClass .boolean) := by decide +kernel
theorem ovr_ok : lw_tbl[183]? = some (Jvm.Cond.arrayOver (.object RX4)) ∧ lw_tbl[185]? = some (Jvm.Cond.arrayOver (.object RX3)) ∧ lw_tbl[187]? = some (Jvm.Cond.arrayOver (.object RX0)) ∧ lw_tbl[189]? = some (Jvm.Cond.arrayOver (.object RX5)) := by decide +kernel
theorem arr_prim {args : Array Value} {s : State} {ty : FieldType} (hne : ∀ C, ty ≠ .object C) (h : (Jvm.Cond.arrayClass ty).before args s = true) : ∃ c : Nat, ArrOfT s c ty ∧ va_RA s c ty := by
  obtain ⟨c, kA, comp, h1, h2, h3⟩ := Cond.arrayClass_spec (args := args) (first := s) (o := none) (s := s) (idx := []) h
  refine ⟨c, fun n z => ⟨fun k h => (by cases h), kA, h2, comp, h3⟩, ?_⟩
  cases ty <;> first | exact h1 | exact absurd rfl (hne _)
theorem arr_over {args : Array Value} {s : State} {C : String} (h : (Jvm.Cond.arrayOver (.object C)).before args s = true) : ∃ c : Nat, ArrOfT s c (.object C) ∧ va_RA s c (.object C) := by
  obtain ⟨comp, c, kA, h1, -, h2, h3, h4⟩ := Cond.arrayOver_spec (args := args) (first := s) (o := none) (s := s) (idx := []) h
  exact ⟨c, fun n z => ⟨fun k h => (by cases h), kA, h2, comp, h3⟩, kA, comp, h2, h3, h1, h4⟩
theorem arr_there {args : Array Value} {s : State} (hts : ∀ w ∈ lw_tbl, w.before args s = true) : ∃ cA : Nat → Nat, ∀ t, t < nTy → ArrOfT s (cA t) (tyT t) ∧ va_RA s (cA t) (tyT t) := by
  have h0 : ∀ t : Nat, ∃ c : Nat, t < nTy → ArrOfT s c (tyT t) ∧ va_RA s c (tyT t) := by
    intro t
    by_cases ht : t < nTy
    · have h1 : ∃ c : Nat, ArrOfT s c (tyT t) ∧ va_RA s c (tyT t) := by
        have h9 : t < 8 := ht
        rcases (show t = 0 ∨ t = 1 ∨ t = 2 ∨ t = 3 ∨ t = 4 ∨ t = 5 ∨ t = 6 ∨ t = 7 by omega) with rfl | rfl | rfl | rfl | rfl | rfl | rfl | rfl
        · exact arr_prim (ty := .int) (fun C h => by cases h) (tbl_at hts _ arr_ok.1)
        · exact arr_prim (ty := .long) (fun C h => by cases h) (tbl_at hts _ arr_ok.2.1)
        · exact arr_prim (ty := .byte) (fun C h => by cases h) (tbl_at hts _ arr_ok.2.2.1)
        · exact arr_prim (ty := .boolean) (fun C h => by cases h) (tbl_at hts _ arr_ok.2.2.2)
        · exact arr_over (C := RX4) (tbl_at hts _ ovr_ok.1)
        · exact arr_over (C := RX3) (tbl_at hts _ ovr_ok.2.1)
        · exact arr_over (C := RX0) (tbl_at hts _ ovr_ok.2.2.1)
        · exact arr_over (C := RX5) (tbl_at hts _ ovr_ok.2.2.2)
      obtain ⟨c, hc⟩ := h1
      exact ⟨c, fun _ => hc⟩
    · exact ⟨0, fun h => absurd h ht⟩
  obtain ⟨f, hf⟩ := Classical.axiomOfChoice h0
  exact ⟨f, hf⟩
theorem ovr_there {args : Array Value} {s : State} (hts : ∀ w ∈ lw_tbl, w.before args s = true) : ∀ t C, 4 ≤ t → t < nTy → tyT t = .object C → va_AO C s := by
  intro t C h4 h8 hC
  have h9 : t < 8 := h8
  rcases (show t = 4 ∨ t = 5 ∨ t = 6 ∨ t = 7 by omega) with rfl | rfl | rfl | rfl
  · have h := tbl_at hts _ ovr_ok.1
    cases hC
    exact va_AO.of h
  · have h := tbl_at hts _ ovr_ok.2.1
    cases hC
    exact va_AO.of h
  · have h := tbl_at hts _ ovr_ok.2.2.1
    cases hC
    exact va_AO.of h
  · have h := tbl_at hts _ ovr_ok.2.2.2
    cases hC
    exact va_AO.of h
/-- exceptions of one kind are none of another -/
def ncP (a b : Nat) : Nat := [45, 60, 75, 90].getD b 0 + (if a < b then a else a - 1)
theorem nc_ok : ((List.range 4).all fun a => (List.range 4).all fun b => decide (a = b) || decide (narL[ncP a b]? = some (Jvm.Cond.not (.castable (exN a) (exN b))))) = true := by decide +kernel
theorem nc_there {args : Array Value} {s : State} (h : (Jvm.Cond.and given_1 narrow_1).before args s = true) : ∀ a b, a < 4 → b < 4 → a ≠ b → va_Nc (exN a) (exN b) s := by
  intro a b ha hb hab
  have h1 := List.all_eq_true.mp (List.all_eq_true.mp nc_ok a (List.mem_range.mpr ha)) b (List.mem_range.mpr hb)
  simp only [Bool.or_eq_true, decide_eq_true_eq] at h1
  rcases h1 with h1 | h1
  · exact absurd h1 hab
  · exact va_Nc.of (narL_at h _ h1)
theorem warm_there {args : Array Value} {s : State} (hts : ∀ w ∈ lw_tbl, w.before args s = true) : ∀ w ∈ lw_tbl, warmW w = true → va_Nw w s := by
  intro w hw hww
  refine va_Nw.of ?_ (hts w hw)
  cases w <;> first | rfl | exact absurd hww (by simp [warmW])
theorem st_off {l : Launch} (h : l.flags = flags0) : l.stackTraces = false := by
  show (!l.flags.contains noTraceFlag) = false
  rw [h]
  decide +kernel
