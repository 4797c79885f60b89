/-! what ties an instruction of the abstract machine to the bytecode, and a check by program -/
def cndJ (b : Nat) : Jvm.ClassFile.Cond := match b with
  | 0 => .eq
  | 1 => .ne
  | 2 => .lt
  | 3 => .ge
  | 4 => .gt
  | _ => .le
def binJ (b : Nat) : Instr := match b with
  | 0 => .iadd
  | 1 => .isub
  | 2 => .imul
  | 3 => .iand
  | 4 => .ior
  | 5 => .ixor
  | 6 => .ishl
  | _ => .ishr
def dvJ (b : Nat) : Instr := match b with
  | 0 => .idiv
  | _ => .irem
def unJ (b : Nat) : Instr := match b with
  | 0 => .i2l
  | 1 => .i2b
  | 2 => .i2c
  | _ => .ineg
def binLJ (b : Nat) : Instr := match b with
  | 0 => .ladd
  | 1 => .lsub
  | 2 => .lmul
  | _ => .lor
def dvLJ (b : Nat) : Instr := match b with
  | 0 => .ldiv
  | _ => .lrem
def dupJ (b : Nat) : Instr := match b with
  | 0 => .dup
  | 1 => .dup2
  | _ => .pop
def retJ (b : Nat) : Instr := match b with
  | 0 => .ireturn
  | 1 => .areturn
  | 2 => .lreturn
  | _ => .return_
def arJ (op : Nat) : Instr := match op with
  | 22 => .arraylength
  | 23 => .iaload
  | 24 => .iastore
  | 25 => .baload
  | 26 => .bastore
  | 27 => .laload
  | 28 => .lastore
  | 29 => .aaload
  | _ => .aastore
def ldJ (a b : Nat) (J : Instr) (n : Nat) : Prop := match b with
  | 0 => (J = .iload a ∧ n = 2) ∨ ∃ k : Fin 4, J = .iload_n k ∧ (k : Nat) = a ∧ n = 1
  | 1 => (J = .aload a ∧ n = 2) ∨ ∃ k : Fin 4, J = .aload_n k ∧ (k : Nat) = a ∧ n = 1
  | 2 => (J = .lload a ∧ n = 2) ∨ ∃ k : Fin 4, J = .lload_n k ∧ (k : Nat) = a ∧ n = 1
  | _ => False
def stJ (a b : Nat) (J : Instr) (n : Nat) : Prop := match b with
  | 0 => (J = .istore a ∧ n = 2) ∨ ∃ k : Fin 4, J = .istore_n k ∧ (k : Nat) = a ∧ n = 1
  | 1 => (J = .astore a ∧ n = 2) ∨ ∃ k : Fin 4, J = .astore_n k ∧ (k : Nat) = a ∧ n = 1
  | 2 => (J = .lstore a ∧ n = 2) ∨ ∃ k : Fin 4, J = .lstore_n k ∧ (k : Nat) = a ∧ n = 1
  | _ => False
def coJ (own : String) (a : Nat) (v : Value) (J : Instr) (n : Nat) : Prop := match a with
  | 0 => ∃ z, J = .iconst z ∧ n = 1 ∧ v = .int (Int32.ofInt z)
  | 1 => ∃ z, J = .bipush z ∧ n = 2 ∧ v = .int (Int8.ofInt z).toInt32
  | 2 => ∃ z, J = .sipush z ∧ n = 3 ∧ v = .int (Int16.ofInt z).toInt32
  | 3 => ∃ z : Fin 2, J = .lconst z ∧ n = 1 ∧ v = .long (Int64.ofNat (z : Nat))
  | _ => ∃ ix x, J = .ldc2_w ix ∧ n = 3 ∧ v = .long x ∧ Cond.constantLong own ix x ∈ WS
def fldJ (own : String) (ix a b : Nat) : Prop := ∃ C T N, vwCl[a]? = some (C, T, N) ∧ b < N ∧ (T b).1 = C ∧ Cond.fieldLink own ix C (T b).2.1 (T b).2.2.1 ∈ WS
def linkJ (own : String) (ix : Nat) (y : MethodName) : Prop := Cond.methodLink own ix y ∈ WS ∨ ∃ h, (own, ix, y, h) ∈ nestTab
def stT (a : Nat) : String × String × String := match a with
  | 0 => ("RidgeBureau$Print", "RIDGES_ALONG_X", "[I")
  | 1 => ("RidgeBureau$Print", "RIDGES_ALONG_Y", "[I")
  | 2 => ("java/lang/String", "COMPACT_STRINGS", "Z")
  | _ => ("jdk/internal/util/Preconditions", "SIOOBE_FORMATTER", "Ljava/util/function/BiFunction;")
def strF (b : Nat) : String × String := match b with
  | 0 => ("value", "[B")
  | _ => ("coder", "B")
/-- words that are no good ones, but hold on when the machine grows warm -/
def warmW : Cond → Bool
  | .castable _ _ => true
  | .declares _ => true
  | .methodLinkNest _ _ _ _ => true
  | _ => false
def icOf (a : Nat) : Nat × Nat := match a with
  | 0 => (86, 90)
  | 1 => (96, 100)
  | 2 => (115, 119)
  | _ => (195, 199)
def exSup : List String := ["java/lang/RuntimeException", "java/lang/Exception"]
def thrJ (own : String) (cc : ByteArray) (pc a : Nat) : Prop := ∃ is text sd, own = RX10 ∧ a < 4 ∧ decode cc pc = .ok (.new (icOf a).1, 3) ∧ decode cc (pc + 3) = .ok (.dup, 1) ∧ (own, is, text, sd) ∈ strTab ∧
  ((decode cc (pc + 4) = .ok (.ldc is, 2) ∧ decode cc (pc + 6) = .ok (.invokespecial (icOf a).2, 3) ∧ decode cc (pc + 9) = .ok (.athrow, 1)) ∨
   (decode cc (pc + 4) = .ok (.ldc_w is, 3) ∧ decode cc (pc + 7) = .ok (.invokespecial (icOf a).2, 3) ∧ decode cc (pc + 10) = .ok (.athrow, 1)))
def callJ (own : String) (mid n : Nat) (l : List Nat) (J : Instr) : Prop := ∃ ix, linkJ own ix (yOf mid) ∧
  ((kindOf mid = 0 ∧ l = [] ∧ J = .invokestatic ix ∧ (parseMethodDescriptor (yOf mid).desc).map (fun d => d.parameters.length) = some n) ∨
   (kindOf mid = 1 ∧ Cond.methodLink own ix (yOf mid) ∈ WS ∧ J = .invokevirtual ix ∧ (parseMethodDescriptor (yOf mid).desc).map (fun d => d.parameters.length + 1) = some n ∧ ((l = [99] ∧ (yOf mid).cls = "java/lang/String") ∨ ∃ ci, l = [ci] ∧ ci ≠ 99 ∧ ci ≠ 100 ∧ (vwCl[ci]?).map (fun x => x.1) = some (yOf mid).cls)) ∨
   (kindOf mid = 2 ∧ l = [100] ∧ J = .invokespecial ix ∧ (parseMethodDescriptor (yOf mid).desc).map (fun d => d.parameters.length + 1) = some n))
/-- the instruction ins at place i of a method, tied to J of length n at pc -/
def OKJ (own : String) (cc : ByteArray) (ini : Bool) (pcs : Nat → Nat) (i : Nat) (ins : aI) (J : Instr) (n : Nat) : Prop :=
  let a := ins.2.1
  let b := ins.2.2.1
  let v := ins.2.2.2.1
  let nx := pcs (i + 1) = pcs i + n
  match ins.1 with
  | 0 => nx ∧ ldJ a b J n
  | 1 => nx ∧ stJ a b J n
  | 2 => nx ∧ coJ own a v J n
  | 3 => nx ∧ ∃ z, J = .iinc a z ∧ n = 3 ∧ v = .int (Int32.ofInt z)
  | 4 => nx ∧ J = binJ b ∧ n = 1 ∧ b < 8
  | 5 => nx ∧ J = dvJ b ∧ n = 1 ∧ b < 2
  | 6 => nx ∧ J = unJ b ∧ n = 1 ∧ b < 4
  | 8 => nx ∧ J = binLJ b ∧ n = 1 ∧ b < 4
  | 9 => nx ∧ J = dvLJ b ∧ n = 1 ∧ b < 2
  | 10 => nx ∧ J = .lcmp ∧ n = 1
  | 11 => nx ∧ J = .lshl ∧ n = 1
  | 12 => nx ∧ J = dupJ b ∧ n = 1 ∧ b < 3
  | 15 => nx ∧ b < 6 ∧ ∃ off, J = .ifCond (cndJ b) off ∧ n = 3 ∧ (pcs i : Int) + off = (pcs a : Int)
  | 16 => nx ∧ b < 6 ∧ ∃ off, J = .if_icmp (cndJ b) off ∧ n = 3 ∧ (pcs i : Int) + off = (pcs a : Int)
  | 17 => ∃ off, J = .goto off ∧ n = 3 ∧ (pcs i : Int) + off = (pcs a : Int)
  | 18 => ∃ dflt lo hi offs, J = .tableswitch dflt lo hi offs ∧ lo = (b : Int) ∧ hi + 1 = (b : Int) + (ins.2.2.2.2.length : Int) ∧ (pcs i : Int) + dflt = (pcs a : Int) ∧ ∀ (j t : Nat), ins.2.2.2.2[j]? = some t → ∃ off : Int, offs[j]? = some off ∧ (pcs i : Int) + off = (pcs t : Int)
  | 19 => nx ∧ ∃ ix, J = .getfield ix ∧ n = 3 ∧ fldJ own ix a b
  | 20 => nx ∧ ∃ ix C T N, J = .putfield ix ∧ n = 3 ∧ fldJ own ix a b ∧ vwCl[a]? = some (C, T, N) ∧ (T b).2.2.2 = false
  | 21 => nx ∧ ∃ ix C T N, J = .putfield ix ∧ n = 3 ∧ fldJ own ix a b ∧ vwCl[a]? = some (C, T, N) ∧ (T b).2.2.2 = true ∧ C = own ∧ ini = true
  | 31 => nx ∧ ∃ ix C T N, J = .new ix ∧ n = 3 ∧ vwCl[a]? = some (C, T, N) ∧ Cond.classLink own ix C ∈ WS
  | 32 => nx ∧ ((a < 4 ∧ ∃ at9, J = .newarray at9 ∧ n = 2 ∧ newarray.typeOf at9 = tyT a ∧ Cond.arrayClass (tyT a) ∈ WS) ∨ (4 ≤ a ∧ a < nTy ∧ ∃ ix C, J = .anewarray ix ∧ n = 3 ∧ tyT a = .object C ∧ Cond.classLink own ix C ∈ WS))
  | 34 => nx ∧ n = 3 ∧ callJ own a b ins.2.2.2.2 J
  | 36 => nx ∧ n = 3 ∧ ∃ ix, J = .invokestatic ix ∧ Cond.methodLink own ix arraycopyName ∈ WS
  | 37 => nx ∧ n = 3 ∧ ∃ ix, J = .invokespecial ix ∧ Cond.methodLink own ix objectInit ∈ WS
  | 38 => thrJ own cc (pcs i) a
  | 39 => J = retJ b ∧ n = 1 ∧ b < 4
  | 40 => nx ∧ ∃ ix text, (own, ix, text, a) ∈ strTab ∧ a < 100 ∧ ((J = .ldc ix ∧ n = 2) ∨ (J = .ldc_w ix ∧ n = 3))
  | 43 => nx ∧ n = 3 ∧ a < 4 ∧ ∃ ix, J = .getstatic ix ∧ Cond.fieldLink own ix (stT a).1 (stT a).2.1 (stT a).2.2 ∈ WS
  | 45 => nx ∧ stJ a 1 J n
  | 46 => nx ∧ n = 3 ∧ b < 2 ∧ ∃ ix, J = .getfield ix ∧ Cond.fieldLink own ix "java/lang/String" (strF b).1 (strF b).2 ∈ WS
  | 99 => True
  | op => nx ∧ 22 ≤ op ∧ op ≤ 30 ∧ J = arJ op ∧ n = 1
def OKI (own : String) (cc : ByteArray) (ini : Bool) (pcs : Nat → Nat) (i : Nat) (ins : aI) : Prop := ∃ J n, decode cc (pcs i) = .ok (J, n) ∧ OKJ own cc ini pcs i ins J n
/-! the same by program -/
def atT (h : Nat) (w : Cond) : Bool := decide (lw_tbl[h]? = some w) && goodWord w
theorem atT_ok {h : Nat} {w : Cond} (e : atT h w = true) : w ∈ WS := by
  simp only [atT, Bool.and_eq_true, decide_eq_true_eq] at e
  exact List.mem_filter.mpr ⟨List.mem_of_getElem? e.1, e.2⟩
def ldB (a b : Nat) (J : Instr) (n : Nat) : Bool := match b, J with
  | 0, .iload x => x == a && n == 2
  | 0, .iload_n x => x.val == a && n == 1
  | 1, .aload x => x == a && n == 2
  | 1, .aload_n x => x.val == a && n == 1
  | 2, .lload x => x == a && n == 2
  | 2, .lload_n x => x.val == a && n == 1
  | _, _ => false
theorem ldB_ok {a b : Nat} {J : Instr} {n : Nat} (h : ldB a b J n = true) : ldJ a b J n := by
  unfold ldB at h
  split at h <;> try simp only [Bool.and_eq_true, beq_iff_eq] at h
  · exact Or.inl ⟨by rw [h.1], h.2⟩
  · exact Or.inr ⟨_, rfl, h.1, h.2⟩
  · exact Or.inl ⟨by rw [h.1], h.2⟩
  · exact Or.inr ⟨_, rfl, h.1, h.2⟩
  · exact Or.inl ⟨by rw [h.1], h.2⟩
  · exact Or.inr ⟨_, rfl, h.1, h.2⟩
  · cases h
def stB (a b : Nat) (J : Instr) (n : Nat) : Bool := match b, J with
  | 0, .istore x => x == a && n == 2
  | 0, .istore_n x => x.val == a && n == 1
  | 1, .astore x => x == a && n == 2
  | 1, .astore_n x => x.val == a && n == 1
  | 2, .lstore x => x == a && n == 2
  | 2, .lstore_n x => x.val == a && n == 1
  | _, _ => false
theorem stB_ok {a b : Nat} {J : Instr} {n : Nat} (h : stB a b J n = true) : stJ a b J n := by
  unfold stB at h
  split at h <;> try simp only [Bool.and_eq_true, beq_iff_eq] at h
  · exact Or.inl ⟨by rw [h.1], h.2⟩
  · exact Or.inr ⟨_, rfl, h.1, h.2⟩
  · exact Or.inl ⟨by rw [h.1], h.2⟩
  · exact Or.inr ⟨_, rfl, h.1, h.2⟩
  · exact Or.inl ⟨by rw [h.1], h.2⟩
  · exact Or.inr ⟨_, rfl, h.1, h.2⟩
  · cases h
def coB (own : String) (a : Nat) (v : Value) (h : Nat) (J : Instr) (n : Nat) : Bool := match a, J with
  | 0, .iconst z => n == 1 && decide (v = .int (Int32.ofInt z))
  | 1, .bipush z => n == 2 && decide (v = .int (Int8.ofInt z).toInt32)
  | 2, .sipush z => n == 3 && decide (v = .int (Int16.ofInt z).toInt32)
  | 3, .lconst z => n == 1 && decide (v = .long (Int64.ofNat (z : Nat)))
  | 4, .ldc2_w ix => n == 3 && (match v with
    | .long x => atT h (.constantLong own ix x)
    | _ => false)
  | _, _ => false
theorem coB_ok {own : String} {a : Nat} {v : Value} {h : Nat} {J : Instr} {n : Nat} (e : coB own a v h J n = true) : coJ own a v J n := by
  unfold coB at e
  split at e
  · simp only [Bool.and_eq_true, beq_iff_eq, decide_eq_true_eq] at e
    exact ⟨_, rfl, e.1, e.2⟩
  · simp only [Bool.and_eq_true, beq_iff_eq, decide_eq_true_eq] at e
    exact ⟨_, rfl, e.1, e.2⟩
  · simp only [Bool.and_eq_true, beq_iff_eq, decide_eq_true_eq] at e
    exact ⟨_, rfl, e.1, e.2⟩
  · simp only [Bool.and_eq_true, beq_iff_eq, decide_eq_true_eq] at e
    exact ⟨_, rfl, e.1, e.2⟩
  · simp only [Bool.and_eq_true, beq_iff_eq] at e
    obtain ⟨e1, e2⟩ := e
    split at e2
    · exact ⟨_, _, rfl, e1, rfl, atT_ok e2⟩
    · cases e2
  · cases e
def fldB (own : String) (ix a b h : Nat) : Bool := match vwCl[a]? with
  | some (C, T, N) => decide (b < N) && decide ((T b).1 = C) && atT h (.fieldLink own ix C (T b).2.1 (T b).2.2.1)
  | none => false
theorem fldB_ok {own : String} {ix a b h : Nat} (e : fldB own ix a b h = true) : fldJ own ix a b := by
  unfold fldB at e
  split at e
  · rename_i C T N hc
    simp only [Bool.and_eq_true, decide_eq_true_eq] at e
    exact ⟨C, T, N, hc, e.1.1, e.1.2, atT_ok e.2⟩
  · cases e
def finB (a b : Nat) : Bool := match vwCl[a]? with
  | some (_, T, _) => (T b).2.2.2
  | none => false
def linkB (own : String) (ix : Nat) (y : MethodName) (h : Nat) : Bool := if h < 100000 then atT h (.methodLink own ix y) else match nestTab[h - 100000]? with
  | some q => decide (q.1 = own) && decide (q.2.1 = ix) && decide (q.2.2.1 = y)
  | none => false
theorem linkB_ok {own : String} {ix : Nat} {y : MethodName} {h : Nat} (e : linkB own ix y h = true) : linkJ own ix y := by
  unfold linkB at e
  split at e
  · exact Or.inl (atT_ok e)
  · split at e
    · rename_i q hq
      simp only [Bool.and_eq_true, decide_eq_true_eq] at e
      obtain ⟨⟨e1, e2⟩, e3⟩ := e
      refine Or.inr ⟨q.2.2.2, ?_⟩
      rw [← e1, ← e2, ← e3]
      exact List.mem_of_getElem? hq
    · cases e
def npB (mid : Nat) : Option Nat := (parseMethodDescriptor (yOf mid).desc).map (fun d => d.parameters.length)
def callB9 (own : String) (mid n : Nat) (l : List Nat) (h : Nat) (J : Instr) : Bool := match J with
  | .invokestatic ix => linkB own ix (yOf mid) h && kindOf mid == 0 && l.isEmpty && decide (npB mid = some n)
  | .invokevirtual ix => atT h (.methodLink own ix (yOf mid)) && kindOf mid == 1 && decide ((npB mid).map (fun x => x + 1) = some n) && (match l with
    | [ci] => if ci = 99 then decide ((yOf mid).cls = "java/lang/String") else decide ((vwCl[ci]?).map (fun x => x.1) = some (yOf mid).cls)
    | _ => false)
  | .invokespecial ix => linkB own ix (yOf mid) h && kindOf mid == 2 && decide (l = [100]) && decide ((npB mid).map (fun x => x + 1) = some n)
  | _ => false
theorem callB9_ok {own : String} {mid n : Nat} {l : List Nat} {h : Nat} {J : Instr} (e : callB9 own mid n l h J = true) : callJ own mid n l J := by
  unfold callB9 at e
  split at e
  · simp only [Bool.and_eq_true, beq_iff_eq, decide_eq_true_eq, List.isEmpty_iff] at e
    obtain ⟨⟨⟨e1, e2⟩, e3⟩, e4⟩ := e
    exact ⟨_, linkB_ok e1, Or.inl ⟨e2, e3, rfl, e4⟩⟩
  · simp only [Bool.and_eq_true, beq_iff_eq, decide_eq_true_eq] at e
    obtain ⟨⟨⟨e1, e2⟩, e3⟩, e4⟩ := e
    refine ⟨_, Or.inl (atT_ok e1), Or.inr (Or.inl ⟨e2, atT_ok e1, rfl, ?_, ?_⟩)⟩
    · rw [npB, Option.map_map] at e3
      exact e3
    · split at e4
      · rename_i ci
        split at e4
        · rename_i hc
          subst hc
          exact Or.inl ⟨rfl, of_decide_eq_true e4⟩
        · rename_i hc
          exact Or.inr ⟨ci, rfl, hc, fun h9 => (by subst h9; cases (of_decide_eq_true e4)), of_decide_eq_true e4⟩
      · cases e4
  · simp only [Bool.and_eq_true, beq_iff_eq, decide_eq_true_eq] at e
    obtain ⟨⟨⟨e1, e2⟩, e3⟩, e4⟩ := e
    refine ⟨_, linkB_ok e1, Or.inr (Or.inr ⟨e2, e3, rfl, ?_⟩)⟩
    rw [npB, Option.map_map] at e4
    exact e4
  · cases e
def isOk (cc : ByteArray) (pc : Nat) (J : Instr) (n : Nat) : Bool := decide (decode cc pc = .ok (J, n))
def thrB (own : String) (cc : ByteArray) (pc a h : Nat) : Bool := decide (own = RX10) && decide (a < 4) && isOk cc pc (.new (icOf a).1) 3 && isOk cc (pc + 3) .dup 1 && (match strTab[h]? with
  | some q => decide (q.1 = own) && ((isOk cc (pc + 4) (.ldc q.2.1) 2 && isOk cc (pc + 6) (.invokespecial (icOf a).2) 3 && isOk cc (pc + 9) .athrow 1) || (isOk cc (pc + 4) (.ldc_w q.2.1) 3 && isOk cc (pc + 7) (.invokespecial (icOf a).2) 3 && isOk cc (pc + 10) .athrow 1))
  | none => false)
theorem thrB_ok {own : String} {cc : ByteArray} {pc a h : Nat} (e : thrB own cc pc a h = true) : thrJ own cc pc a := by
  unfold thrB at e
  simp only [Bool.and_eq_true] at e
  obtain ⟨⟨⟨⟨e1, e2⟩, e3⟩, e4⟩, e5⟩ := e
  split at e5
  · rename_i q hq
    simp only [Bool.and_eq_true, Bool.or_eq_true, isOk, decide_eq_true_eq] at e1 e2 e3 e4 e5
    refine ⟨q.2.1, q.2.2.1, q.2.2.2, e1, e2, e3, e4, ?_, ?_⟩
    · rw [← e5.1]; exact List.mem_of_getElem? hq
    · rcases e5.2 with ⟨⟨h1, h2⟩, h3⟩ | ⟨⟨h1, h2⟩, h3⟩
      · exact Or.inl ⟨h1, h2, h3⟩
      · exact Or.inr ⟨h1, h2, h3⟩
  · cases e5

def swB (pcs : Nat → Nat) (i : Nat) (l : List Nat) (offs : Array Int) : Bool := (List.range l.length).all fun j => match l[j]?, offs[j]? with
  | some t, some off => decide ((pcs i : Int) + off = (pcs t : Int))
  | _, _ => false
theorem swB_ok {pcs : Nat → Nat} {i : Nat} {l : List Nat} {offs : Array Int} (h : swB pcs i l offs = true) : ∀ (j t : Nat), l[j]? = some t → ∃ off : Int, offs[j]? = some off ∧ (pcs i : Int) + off = (pcs t : Int) := by
  intro j t hj
  have hl : j < l.length := (List.getElem?_eq_some_iff.mp hj).1
  have h1 := List.all_eq_true.mp h j (List.mem_range.mpr hl)
  rw [hj] at h1
  split at h1
  · rename_i t' off ht ho
    cases ht
    exact ⟨off, ho, of_decide_eq_true h1⟩
  · cases h1
def chJ (own : String) (cc : ByteArray) (ini : Bool) (pcs : Nat → Nat) (i : Nat) (ins : aI) (h : Nat) (J : Instr) (n : Nat) : Bool :=
  let a := ins.2.1
  let b := ins.2.2.1
  let v := ins.2.2.2.1
  let nx := decide (pcs (i + 1) = pcs i + n)
  match ins.1 with
  | 0 => nx && ldB a b J n
  | 1 => nx && stB a b J n
  | 2 => nx && coB own a v h J n
  | 3 => nx && n == 3 && (match J with
    | .iinc x z => x == a && decide (v = .int (Int32.ofInt z))
    | _ => false)
  | 4 => nx && decide (J = binJ b) && n == 1 && decide (b < 8)
  | 5 => nx && decide (J = dvJ b) && n == 1 && decide (b < 2)
  | 6 => nx && decide (J = unJ b) && n == 1 && decide (b < 4)
  | 8 => nx && decide (J = binLJ b) && n == 1 && decide (b < 4)
  | 9 => nx && decide (J = dvLJ b) && n == 1 && decide (b < 2)
  | 10 => nx && decide (J = .lcmp) && n == 1
  | 11 => nx && decide (J = .lshl) && n == 1
  | 12 => nx && decide (J = dupJ b) && n == 1 && decide (b < 3)
  | 15 => nx && decide (b < 6) && n == 3 && (match J with
    | .ifCond c off => decide (c = cndJ b) && decide ((pcs i : Int) + off = (pcs a : Int))
    | _ => false)
  | 16 => nx && decide (b < 6) && n == 3 && (match J with
    | .if_icmp c off => decide (c = cndJ b) && decide ((pcs i : Int) + off = (pcs a : Int))
    | _ => false)
  | 17 => n == 3 && (match J with
    | .goto off => decide ((pcs i : Int) + off = (pcs a : Int))
    | _ => false)
  | 18 => (match J with
    | .tableswitch dflt lo hi offs => decide (lo = (b : Int)) && decide (hi + 1 = (b : Int) + (ins.2.2.2.2.length : Int)) && decide ((pcs i : Int) + dflt = (pcs a : Int)) && swB pcs i ins.2.2.2.2 offs
    | _ => false)
  | 19 => nx && n == 3 && (match J with
    | .getfield ix => fldB own ix a b h
    | _ => false)
  | 20 => nx && n == 3 && (match J with
    | .putfield ix => fldB own ix a b h && (match vwCl[a]? with
      | some (_, T, _) => decide ((T b).2.2.2 = false)
      | none => false)
    | _ => false)
  | 21 => nx && n == 3 && ini && (match J with
    | .putfield ix => fldB own ix a b h && (match vwCl[a]? with
      | some (C, T, _) => decide ((T b).2.2.2 = true) && decide (C = own)
      | none => false)
    | _ => false)
  | 31 => nx && n == 3 && (match J with
    | .new ix => (match vwCl[a]? with
      | some (C, _, _) => atT h (.classLink own ix C)
      | none => false)
    | _ => false)
  | 32 => nx && (match J with
    | .newarray at9 => decide (a < 4) && n == 2 && decide (newarray.typeOf at9 = tyT a) && atT h (.arrayClass (tyT a))
    | .anewarray ix => decide (4 ≤ a) && decide (a < nTy) && n == 3 && (match tyT a with
      | .object C => atT h (.classLink own ix C)
      | _ => false)
    | _ => false)
  | 34 => nx && n == 3 && callB9 own a b ins.2.2.2.2 h J
  | 36 => nx && n == 3 && (match J with
    | .invokestatic ix => atT h (.methodLink own ix arraycopyName)
    | _ => false)
  | 37 => nx && n == 3 && (match J with
    | .invokespecial ix => atT h (.methodLink own ix objectInit)
    | _ => false)
  | 38 => thrB own cc (pcs i) a h
  | 39 => decide (J = retJ b) && n == 1 && decide (b < 4)
  | 40 => nx && decide (a < 100) && (match strTab[h]? with
    | some q => decide (q.1 = own) && decide (q.2.2.2 = a) && ((decide (J = .ldc q.2.1) && n == 2) || (decide (J = .ldc_w q.2.1) && n == 3))
    | none => false)
  | 43 => nx && n == 3 && decide (a < 4) && (match J with
    | .getstatic ix => atT h (.fieldLink own ix (stT a).1 (stT a).2.1 (stT a).2.2)
    | _ => false)
  | 45 => nx && stB a 1 J n
  | 46 => nx && n == 3 && decide (b < 2) && (match J with
    | .getfield ix => atT h (.fieldLink own ix "java/lang/String" (strF b).1 (strF b).2)
    | _ => false)
  | 99 => true
  | 22 => nx && decide (J = arJ 22) && n == 1
  | 23 => nx && decide (J = arJ 23) && n == 1
  | 24 => nx && decide (J = arJ 24) && n == 1
  | 25 => nx && decide (J = arJ 25) && n == 1
  | 26 => nx && decide (J = arJ 26) && n == 1
  | 27 => nx && decide (J = arJ 27) && n == 1
  | 28 => nx && decide (J = arJ 28) && n == 1
  | 29 => nx && decide (J = arJ 29) && n == 1
  | 30 => nx && decide (J = arJ 30) && n == 1
  | _ => false
set_option maxHeartbeats 4000000 in
theorem chJ_ok {own : String} {cc : ByteArray} {ini : Bool} {pcs : Nat → Nat} {i : Nat} {ins : aI} {h : Nat} {J : Instr} {n : Nat} (e : chJ own cc ini pcs i ins h J n = true) : OKJ own cc ini pcs i ins J n := by
  obtain ⟨op, a, b, v, l⟩ := ins
  unfold chJ at e
  dsimp only at e
  unfold OKJ
  dsimp only
  split at e <;> try simp only [Bool.and_eq_true, beq_iff_eq, decide_eq_true_eq] at e
  · exact ⟨e.1, ldB_ok e.2⟩
  · exact ⟨e.1, stB_ok e.2⟩
  · exact ⟨e.1, coB_ok e.2⟩
  · obtain ⟨⟨e1, e2⟩, e3⟩ := e
    split at e3
    · simp only [Bool.and_eq_true, beq_iff_eq, decide_eq_true_eq] at e3
      exact ⟨e1, _, by rw [e3.1], e2, e3.2⟩
    · cases e3
  · exact ⟨e.1.1.1, e.1.1.2, e.1.2, e.2⟩
  · exact ⟨e.1.1.1, e.1.1.2, e.1.2, e.2⟩
  · exact ⟨e.1.1.1, e.1.1.2, e.1.2, e.2⟩
  · exact ⟨e.1.1.1, e.1.1.2, e.1.2, e.2⟩
  · exact ⟨e.1.1.1, e.1.1.2, e.1.2, e.2⟩
  · exact ⟨e.1.1, e.1.2, e.2⟩
  · exact ⟨e.1.1, e.1.2, e.2⟩
  · exact ⟨e.1.1.1, e.1.1.2, e.1.2, e.2⟩
  · obtain ⟨⟨⟨e1, e2⟩, e3⟩, e4⟩ := e
    split at e4
    · simp only [Bool.and_eq_true, decide_eq_true_eq] at e4
      exact ⟨e1, e2, _, by rw [e4.1], e3, e4.2⟩
    · cases e4
  · obtain ⟨⟨⟨e1, e2⟩, e3⟩, e4⟩ := e
    split at e4
    · simp only [Bool.and_eq_true, decide_eq_true_eq] at e4
      exact ⟨e1, e2, _, by rw [e4.1], e3, e4.2⟩
    · cases e4
  · obtain ⟨e1, e4⟩ := e
    split at e4
    · exact ⟨_, rfl, e1, of_decide_eq_true e4⟩
    · cases e4
  · split at e
    · simp only [Bool.and_eq_true, decide_eq_true_eq] at e
      obtain ⟨⟨⟨e1, e2⟩, e3⟩, e4⟩ := e
      exact ⟨_, _, _, _, rfl, e1, e2, e3, swB_ok e4⟩
    · cases e
  · obtain ⟨⟨e1, e2⟩, e4⟩ := e
    split at e4
    · exact ⟨e1, _, rfl, e2, fldB_ok e4⟩
    · cases e4
  · obtain ⟨⟨e1, e2⟩, e4⟩ := e
    split at e4
    · simp only [Bool.and_eq_true] at e4
      obtain ⟨e5, e6⟩ := e4
      split at e6
      · rename_i hc
        exact ⟨e1, _, _, _, _, rfl, e2, fldB_ok e5, hc, of_decide_eq_true e6⟩
      · cases e6
    · cases e4
  · obtain ⟨⟨⟨e1, e2⟩, e3⟩, e4⟩ := e
    split at e4
    · simp only [Bool.and_eq_true] at e4
      obtain ⟨e5, e6⟩ := e4
      split at e6
      · rename_i hc
        simp only [Bool.and_eq_true, decide_eq_true_eq] at e6
        exact ⟨e1, _, _, _, _, rfl, e2, fldB_ok e5, hc, e6.1, e6.2, e3⟩
      · cases e6
    · cases e4
  · obtain ⟨⟨e1, e2⟩, e4⟩ := e
    split at e4
    · split at e4
      · rename_i hc
        exact ⟨e1, _, _, _, _, rfl, e2, hc, atT_ok e4⟩
      · cases e4
    · cases e4
  · obtain ⟨e1, e4⟩ := e
    split at e4
    · simp only [Bool.and_eq_true, beq_iff_eq, decide_eq_true_eq] at e4
      exact ⟨e1, Or.inl ⟨e4.1.1.1, _, rfl, e4.1.1.2, e4.1.2, atT_ok e4.2⟩⟩
    · simp only [Bool.and_eq_true, beq_iff_eq, decide_eq_true_eq] at e4
      obtain ⟨⟨⟨f1, f2⟩, f3⟩, f4⟩ := e4
      split at f4
      · rename_i hc
        exact ⟨e1, Or.inr ⟨f1, f2, _, _, rfl, f3, hc, atT_ok f4⟩⟩
      · cases f4
    · cases e4
  · exact ⟨e.1.1, e.1.2, callB9_ok e.2⟩
  · obtain ⟨⟨e1, e2⟩, e4⟩ := e
    split at e4
    · exact ⟨e1, e2, _, rfl, atT_ok e4⟩
    · cases e4
  · obtain ⟨⟨e1, e2⟩, e4⟩ := e
    split at e4
    · exact ⟨e1, e2, _, rfl, atT_ok e4⟩
    · cases e4
  · exact thrB_ok e
  · exact ⟨e.1.1, e.1.2, e.2⟩
  · obtain ⟨⟨e1, e2⟩, e4⟩ := e
    split at e4
    · rename_i q hq
      simp only [Bool.and_eq_true, Bool.or_eq_true, beq_iff_eq, decide_eq_true_eq] at e4
      obtain ⟨⟨f1, f2⟩, f3⟩ := e4
      refine ⟨e1, q.2.1, q.2.2.1, ?_, e2, f3⟩
      rw [← f1, ← f2]
      exact List.mem_of_getElem? hq
    · cases e4
  · obtain ⟨⟨⟨e1, e2⟩, e3⟩, e4⟩ := e
    split at e4
    · exact ⟨e1, e2, e3, _, rfl, atT_ok e4⟩
    · cases e4
  · exact ⟨e.1, stB_ok e.2⟩
  · obtain ⟨⟨⟨e1, e2⟩, e3⟩, e4⟩ := e
    split at e4
    · exact ⟨e1, e2, e3, _, rfl, atT_ok e4⟩
    · cases e4
  · trivial
  · exact ⟨e.1.1, by decide, by decide, e.1.2, e.2⟩
  · exact ⟨e.1.1, by decide, by decide, e.1.2, e.2⟩
  · exact ⟨e.1.1, by decide, by decide, e.1.2, e.2⟩
  · exact ⟨e.1.1, by decide, by decide, e.1.2, e.2⟩
  · exact ⟨e.1.1, by decide, by decide, e.1.2, e.2⟩
  · exact ⟨e.1.1, by decide, by decide, e.1.2, e.2⟩
  · exact ⟨e.1.1, by decide, by decide, e.1.2, e.2⟩
  · exact ⟨e.1.1, by decide, by decide, e.1.2, e.2⟩
  · exact ⟨e.1.1, by decide, by decide, e.1.2, e.2⟩
  · cases e
def chI (own : String) (cc : ByteArray) (ini : Bool) (pcs : Nat → Nat) (K : List aI) (hs : List Nat) (i : Nat) : Bool := match K[i]?, decode cc (pcs i) with
  | some ins, .ok (J, n) => chJ own cc ini pcs i ins (hs.getD i 0) J n
  | _, _ => false
/-- a method's check -/
def chM (m : Nat) : Bool := (List.range (codeOf m).length).all fun i => chI (yOf m).cls (bytOf m) ((yOf m).name == "<init>") (pcOf m) (codeOf m) (hL.getD m []) i
theorem chM_ok {m : Nat} (h : chM m = true) : ∀ i ins, (codeOf m)[i]? = some ins → OKI (yOf m).cls (bytOf m) ((yOf m).name == "<init>") (pcOf m) i ins := by
  intro i ins hi
  have hl : i < (codeOf m).length := (List.getElem?_eq_some_iff.mp hi).1
  have h1 := List.all_eq_true.mp h i (List.mem_range.mpr hl)
  unfold chI at h1
  rw [hi] at h1
  split at h1
  · rename_i ins' J n h2 h3
    cases h2
    exact ⟨J, n, h3, chJ_ok h1⟩
  · cases h1
/-- a method as a callee -/
def chY (m : Nat) : Bool := let q := mhL.getD m (0, 0, 0, 0)
  atT q.1 (.initialized (yOf m).cls) && atT q.2.1 (codeW m) && decide ((yOf m).cls ≠ "java/lang/invoke/MethodHandle") && decide ((yOf m).cls ≠ "java/lang/invoke/VarHandle") && plainName (yOf m).cls &&
  (match kindOf m with
  | 0 => atT q.2.2.1 (.static (yOf m))
  | 1 => (exwOf m).isEmpty && atT q.2.2.1 (.instanceMethod (yOf m)) && atT q.2.2.2 (.selects (yOf m).cls (yOf m) (yOf m))
  | 2 => (exwOf m).isEmpty && atT q.2.2.1 (.instanceMethod (yOf m)) && decide ((yOf m).name = "<init>") && decide (retOf m = none)
  | _ => false) && decide (mlOf m ≤ 40)
