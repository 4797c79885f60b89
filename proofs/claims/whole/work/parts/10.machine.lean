/-! the abstract machine itself -/
def binI (b : Nat) (x y : Int32) : Int32 := match b with
  | 0 => x + y
  | 1 => x - y
  | 2 => x * y
  | 3 => x &&& y
  | 4 => x ||| y
  | 5 => x ^^^ y
  | 6 => x <<< (y &&& 31)
  | _ => x >>> (y &&& 31)
def dvI (b : Nat) (x y : Int32) : Int32 := match b with
  | 0 => x / y
  | _ => x - x / y * y
def binL (b : Nat) (x y : Int64) : Int64 := match b with
  | 0 => x + y
  | 1 => x - y
  | 2 => x * y
  | _ => x ||| y
def dvL (b : Nat) (x y : Int64) : Int64 := match b with
  | 0 => x / y
  | _ => x - x / y * y
def cmpI (b : Nat) (x y : Int32) : Prop := match b with
  | 0 => x = y
  | 1 => ¬ x = y
  | 2 => x < y
  | 3 => y ≤ x
  | 4 => y < x
  | _ => x ≤ y
def kindV : Value → Nat
  | .int _ => 0
  | .ref _ => 1
  | .long _ => 2
  | _ => 9
def clr (lo : List (Option Value)) (a : Nat) : List (Option Value) := match a with
  | 0 => lo
  | k + 1 => match lo[k]? with
    | some (some v) => if v.category = 2 then lo.set k none else lo
    | _ => lo
def setL (lo : List (Option Value)) (a : Nat) (v : Value) : List (Option Value) := match v with
  | .long _ => ((clr lo a).set a (some v)).set (a + 1) none
  | _ => (clr lo a).set a (some v)
def flL (vs : List Value) : List (Option Value) := vs.flatMap fun v => if v.category = 2 then [some v, none] else [some v]
def entL (vs : List Value) (n : Nat) : List (Option Value) := flL vs ++ List.replicate (n - (flL vs).length) none
def stW (st : List Value) : Nat := (st.map fun v => v.category).sum
/-- fixed rows: number, kind (place in tyT), length, contents -/
def faOf (g : (Nat → Option (Nat × Nat × (Nat → Int32))) × (Nat → Value)) (id : Nat) : Option (Nat × Nat × (Nat → Int32)) := if id < FB then none else g.1 (id - FB)
/-- a row of ints in the world or outside, of kind t -/
def rdA (g : (Nat → Option (Nat × Nat × (Nat → Int32))) × (Nat → Value)) (w : aW) (id t n : Nat) (f : Nat → Int32) : Prop := aAt w id (.inl (t, n, .inl f)) ∨ (FB ≤ id ∧ g.1 (id - FB) = some (t, n, f))
def hndA (hs : List (Nat × Nat × Nat × String)) (E : String) (i : Nat) : Option Nat := match hs with
  | [] => none
  | (a, b, h, n) :: r => if a ≤ i ∧ i < b ∧ n = E then some h else hndA r E i
abbrev aG : Type := (Nat → Option (Nat × Nat × (Nat → Int32))) × (Nat → Value)
abbrev aK : Type := aW → Nat → Nat → Nat → List (Option Value) → List Value → Prop
section MACH
variable (g : aG) (mb : Nat → Nat × Nat) (cs : aS) (I : aInfo) (K : List aI) (k : aK) (Qr : Option Value → aW → Prop) (Qx : String → aW → Prop)
def opLd (a b : Nat) (w : aW) (uc us i : Nat) (lo : List (Option Value)) (st : List Value) : Prop := ∃ v, lo[a]? = some (some v) ∧ kindV v = b ∧ k w uc us (i + 1) lo (v :: st)
def opSt (a b : Nat) (w : aW) (uc us i : Nat) (lo : List (Option Value)) (st : List Value) : Prop := match st with
  | v :: r => kindV v = b ∧ a < lo.length ∧ (b = 2 → a + 1 < lo.length) ∧ k w uc us (i + 1) (setL lo a v) r
  | _ => False
def opInc (a : Nat) (v : Value) (w : aW) (uc us i : Nat) (lo : List (Option Value)) (st : List Value) : Prop := match v with
  | .int n => ∃ x, lo[a]? = some (some (.int x)) ∧ k w uc us (i + 1) (setL lo a (.int (x + n))) st
  | _ => False
def opBin (b : Nat) (w : aW) (uc us i : Nat) (lo : List (Option Value)) (st : List Value) : Prop := match st with
  | .int y :: .int x :: r => k w uc us (i + 1) lo (.int (binI b x y) :: r)
  | _ => False
def opDv (b : Nat) (w : aW) (uc us i : Nat) (lo : List (Option Value)) (st : List Value) : Prop := match st with
  | .int y :: .int x :: r => ¬ y = 0 ∧ k w uc us (i + 1) lo (.int (dvI b x y) :: r)
  | _ => False
def opUn (b : Nat) (w : aW) (uc us i : Nat) (lo : List (Option Value)) (st : List Value) : Prop := match st with
  | .int x :: r => k w uc us (i + 1) lo ((match b with
    | 0 => .long x.toInt64
    | 1 => .int x.toInt8.toInt32
    | 2 => .int (x.toUInt32 % 65536).toInt32
    | _ => .int (-x)) :: r)
  | _ => False
def opBinL (b : Nat) (w : aW) (uc us i : Nat) (lo : List (Option Value)) (st : List Value) : Prop := match st with
  | .long y :: .long x :: r => k w uc us (i + 1) lo (.long (binL b x y) :: r)
  | _ => False
def opDvL (b : Nat) (w : aW) (uc us i : Nat) (lo : List (Option Value)) (st : List Value) : Prop := match st with
  | .long y :: .long x :: r => ¬ y = 0 ∧ k w uc us (i + 1) lo (.long (dvL b x y) :: r)
  | _ => False
def opCmL (w : aW) (uc us i : Nat) (lo : List (Option Value)) (st : List Value) : Prop := match st with
  | .long y :: .long x :: r => k w uc us (i + 1) lo (.int (lg_cmp x y) :: r)
  | _ => False
def opShL (w : aW) (uc us i : Nat) (lo : List (Option Value)) (st : List Value) : Prop := match st with
  | .int y :: .long x :: r => k w uc us (i + 1) lo (.long (x <<< (y.toInt64 &&& 63)) :: r)
  | _ => False
def opDup (b : Nat) (w : aW) (uc us i : Nat) (lo : List (Option Value)) (st : List Value) : Prop := match b, st with
  | 0, v :: r => v.category = 1 ∧ k w uc us (i + 1) lo (v :: v :: r)
  | 1, v :: u :: r => v.category = 1 ∧ u.category = 1 ∧ k w uc us (i + 1) lo (v :: u :: v :: u :: r)
  | 2, v :: r => v.category = 1 ∧ k w uc us (i + 1) lo r
  | _, _ => False
def opIf (a b : Nat) (w : aW) (uc us i : Nat) (lo : List (Option Value)) (st : List Value) : Prop := match st with
  | .int x :: r => (cmpI b x 0 → k w uc us a lo r) ∧ (¬ cmpI b x 0 → k w uc us (i + 1) lo r)
  | _ => False
def opCmp (a b : Nat) (w : aW) (uc us i : Nat) (lo : List (Option Value)) (st : List Value) : Prop := match st with
  | .int y :: .int x :: r => (cmpI b x y → k w uc us a lo r) ∧ (¬ cmpI b x y → k w uc us (i + 1) lo r)
  | _ => False
def opSw (a b : Nat) (l : List Nat) (w : aW) (uc us : Nat) (lo : List (Option Value)) (st : List Value) : Prop := match st with
  | .int x :: r => ((x.toInt < b ∨ b + l.length ≤ x.toInt) → k w uc us a lo r) ∧ ∀ (j t : Nat), l[j]? = some t → x.toInt = b + j → k w uc us t lo r
  | _ => False
def opGet (a b : Nat) (w : aW) (uc us i : Nat) (lo : List (Option Value)) (st : List Value) : Prop := match st with
  | .ref q :: r => ∃ fs v, aAt w q (.inr (a, fs)) ∧ fs[b]? = some v ∧ k w uc us (i + 1) lo (v :: r)
  | _ => False
def opPut (a b : Nat) (ty : FieldType) (w : aW) (uc us i : Nat) (lo : List (Option Value)) (st : List Value) : Prop := match st with
  | v :: .ref q :: r => ∃ fs, aAt w q (.inr (a, fs)) ∧ b < fs.length ∧ narrow ty v = v ∧ fits ty v = true ∧ k (aUp w q (.inr (a, fs.set b v))) uc us (i + 1) lo r
  | _ => False
def opGetS (b : Nat) (w : aW) (uc us i : Nat) (lo : List (Option Value)) (st : List Value) : Prop := match st with
  | .ref q :: r => FB ≤ q ∧ q < FB + 100 ∧ (g.1 (q - FB + 100)).isSome = true ∧ k w uc us (i + 1) lo ((match b with
    | 0 => .ref (q + 100)
    | _ => .int 0) :: r)
  | _ => False
def opLen (w : aW) (uc us i : Nat) (lo : List (Option Value)) (st : List Value) : Prop := match st with
  | .ref q :: r => ∃ n, ((∃ t a, aAt w q (.inl (t, n, a)) ∧ t < nTy) ∨ (∃ t f, FB ≤ q ∧ g.1 (q - FB) = some (t, n, f))) ∧ k w uc us (i + 1) lo (.int (Int32.ofNat n) :: r)
  | _ => False
def opILd (b : Nat) (w : aW) (uc us i : Nat) (lo : List (Option Value)) (st : List Value) : Prop := match st with
  | .int j :: .ref q :: r => ∃ t n f, rdA g w q t n f ∧ (if b = 0 then t = 0 else t = 2 ∨ t = 3) ∧ vp_in j n ∧ k w uc us (i + 1) lo (.int (f j.toNatClampNeg) :: r)
  | _ => False
def opISt (b : Nat) (w : aW) (uc us i : Nat) (lo : List (Option Value)) (st : List Value) : Prop := match st with
  | .int x :: .int j :: .ref q :: r => ∃ t n f, aAt w q (.inl (t, n, .inl f)) ∧ (if b = 0 then t = 0 else t = 2 ∨ t = 3) ∧ vp_in j n ∧ k (aUp w q (.inl (t, n, .inl (upd f j.toNatClampNeg (if b = 0 then x else vp_nar (tyT t) x))))) uc us (i + 1) lo r
  | _ => False
def opLLd (w : aW) (uc us i : Nat) (lo : List (Option Value)) (st : List Value) : Prop := match st with
  | .int j :: .ref q :: r => ∃ n f, aAt w q (.inl (1, n, .inr (.inl f))) ∧ vp_in j n ∧ k w uc us (i + 1) lo (.long (f j.toNatClampNeg) :: r)
  | _ => False
def opLSt (w : aW) (uc us i : Nat) (lo : List (Option Value)) (st : List Value) : Prop := match st with
  | .long x :: .int j :: .ref q :: r => ∃ n f, aAt w q (.inl (1, n, .inr (.inl f))) ∧ vp_in j n ∧ k (aUp w q (.inl (1, n, .inr (.inl (vp_updL f j.toNatClampNeg x))))) uc us (i + 1) lo r
  | _ => False
def opALd (w : aW) (uc us i : Nat) (lo : List (Option Value)) (st : List Value) : Prop := match st with
  | .int j :: .ref q :: r => ∃ t n f y, aAt w q (.inl (t, n, .inr (.inr (.inr (.inr f))))) ∧ (4 ≤ t ∧ t < nTy) ∧ vp_in j n ∧ f j.toNatClampNeg = some y ∧ k w uc us (i + 1) lo (.ref y :: r)
  | _ => False
def opASt (w : aW) (uc us i : Nat) (lo : List (Option Value)) (st : List Value) : Prop := match st with
  | .ref y :: .int j :: .ref q :: r => ∃ t n f ci vs C, aAt w q (.inl (t, n, .inr (.inr (.inr (.inr f))))) ∧ (4 ≤ t ∧ t < nTy) ∧ tyT t = .object C ∧ (vwCl[ci]?).map (fun x => x.1) = some C ∧ aAt w y (.inr (ci, vs)) ∧ vp_in j n ∧ k (aUp w q (.inl (t, n, .inr (.inr (.inr (.inr (va_up f j.toNatClampNeg (some y)))))))) uc us (i + 1) lo r
  | _ => False
def opNew (nb a b : Nat) (fs : List Value) (w : aW) (uc us i : Nat) (lo : List (Option Value)) (st : List Value) : Prop := w.1 < N0 ∧ w.1 = nb + uc ∧ uc + 1 ≤ I.1 ∧ us + b ≤ I.2.1 ∧ k (aNew w (.inr (a, fs))) (uc + 1) (us + b) (i + 1) lo (.ref w.1 :: st)
def opNewA (nb t : Nat) (w : aW) (uc us i : Nat) (lo : List (Option Value)) (st : List Value) : Prop := match st with
  | .int z :: r => ¬ z < 0 ∧ z.toNatClampNeg ≤ 1000000 ∧ w.1 < N0 ∧ w.1 = nb + uc ∧ uc + 1 ≤ I.1 ∧ us + z.toNatClampNeg ≤ I.2.1 ∧ k (aNew w (.inl (t, z.toNatClampNeg, match t with
    | 0 => .inl (fun _ => 0)
    | 1 => .inr (.inl (fun _ => 0))
    | 2 => .inl (fun _ => 0)
    | 3 => .inl (fun _ => 0)
    | _ => .inr (.inr (.inr (.inr (fun _ => none))))))) (uc + 1) (us + z.toNatClampNeg) (i + 1) lo (.ref w.1 :: r)
  | _ => False
def rcvA (l : List Nat) (w : aW) (as : List Value) : Prop := match l, as with
  | [], _ => True
  | ci :: _, .ref q :: _ => if ci = 99 then FB ≤ q ∧ q < FB + 100 ∧ (g.1 (q - FB + 100)).isSome = true else if ci = 100 then True else ∃ fs, aAt w q (.inr (ci, fs))
  | _, _ => False
def opInv (nb mid n : Nat) (l : List Nat) (w : aW) (uc us i : Nat) (lo : List (Option Value)) (st : List Value) : Prop := n ≤ st.length ∧ (stW (st.drop n) ≤ 8 ∨ (stW (st.drop n) ≤ 12 ∧ (mid = 221 ∨ mid = 222))) ∧ (w.1 = N0 ∨ w.1 = nb + uc) ∧ rcvA g l w (st.take n).reverse ∧ uc + (mb mid).1 ≤ I.1 ∧ us + (mb mid).2 ≤ I.2.1 ∧
  cs mid (st.take n).reverse w (fun v w' => k w' (uc + (mb mid).1) (us + (mb mid).2) (i + 1) lo (v.toList ++ st.drop n))
    (fun E w' => match hndA I.2.2.2 E i with
      | some h => ∃ a vv ll, K[h]? = some (45, a, 0, vv, ll) ∧ a < lo.length ∧ k w' (uc + (mb mid).1) (us + (mb mid).2) (h + 1) ((clr lo a).set a none) []
      | none => I.2.2.2 = [] ∧ Qx E w')
def opCpy (w : aW) (uc us i : Nat) (lo : List (Option Value)) (st : List Value) : Prop := match st with
  | .int n :: .int dp :: .ref q1 :: .int sp :: .ref q0 :: r => ∃ n0 f n1 f1, aAt w q0 (.inl (0, n0, .inl f)) ∧ aAt w q1 (.inl (0, n1, .inl f1)) ∧ stW r ≤ 8 ∧ ¬ sp < 0 ∧ ¬ dp < 0 ∧ ¬ n < 0 ∧ sp.toNatClampNeg + n.toNatClampNeg ≤ n0 ∧ dp.toNatClampNeg + n.toNatClampNeg ≤ n1 ∧
      k (aUp w q1 (.inl (0, n1, .inl (va_cpy f f1 sp.toNatClampNeg dp.toNatClampNeg n.toNatClampNeg)))) uc us (i + 1) lo r
  | _ => False
def opObj (w : aW) (uc us i : Nat) (lo : List (Option Value)) (st : List Value) : Prop := match st with
  | .ref _ :: r => stW r ≤ 8 ∧ k w uc us (i + 1) lo r
  | _ => False
def opThr (a : Nat) (w : aW) (uc us : Nat) (st : List Value) : Prop := w.1 = N0 ∧ I.2.2.2 = [] ∧ stW st ≤ 8 ∧ uc + 1 ≤ I.1 ∧ us + 6 ≤ I.2.1 ∧ Qx (exN a) w
def opRet (b : Nat) (w : aW) (uc us : Nat) (st : List Value) : Prop := uc ≤ I.1 ∧ us ≤ I.2.1 ∧ match b, st with
  | 0, [.int x] => (∃ ty, I.2.2.1 = some ty ∧ narrow ty (.int x) = .int x ∧ refKind ty = false ∧ ty ≠ .long) ∧ Qr (some (.int x)) w
  | 1, [.ref q] => (∃ C, I.2.2.1 = some (.object C)) ∧ Qr (some (.ref q)) w
  | 2, [.long x] => I.2.2.1 = some .long ∧ Qr (some (.long x)) w
  | 3, [] => I.2.2.1 = none ∧ Qr none w
  | _, _ => False
/-- the type of a field of a class -/
def ftyA (a b : Nat) : FieldType := match a with
  | 0 => tyX0 b
  | 1 => tyX1 b
  | 2 => tyX2 b
  | 3 => tyX3 b
  | 4 => tyX4 b
  | 5 => tyX5 b
  | 6 => tyX6 b
  | 7 => tyX7 b
  | 8 => tyX8 b
  | 9 => tyX9 b
  | 10 => tyX10 b
  | _ => tyX11 b
def nfA (a : Nat) : Nat := ((vwCl[a]?).map fun x => x.2.2).getD 0
def dfA (a : Nat) : List Value := (List.range (nfA a)).map fun b => defaultValue (ftyA a b)
def opS (nb : Nat) (ins : aI) (w : aW) (uc us i : Nat) (lo : List (Option Value)) (st : List Value) : Prop :=
  let a := ins.2.1
  let b := ins.2.2.1
  match ins.1 with
  | 0 => opLd k a b w uc us i lo st
  | 1 => opSt k a b w uc us i lo st
  | 2 => k w uc us (i + 1) lo (ins.2.2.2.1 :: st)
  | 3 => opInc k a ins.2.2.2.1 w uc us i lo st
  | 4 => opBin k b w uc us i lo st
  | 5 => opDv k b w uc us i lo st
  | 6 => opUn k b w uc us i lo st
  | 8 => opBinL k b w uc us i lo st
  | 9 => opDvL k b w uc us i lo st
  | 10 => opCmL k w uc us i lo st
  | 11 => opShL k w uc us i lo st
  | 12 => opDup k b w uc us i lo st
  | 15 => opIf k a b w uc us i lo st
  | 16 => opCmp k a b w uc us i lo st
  | 17 => k w uc us a lo st
  | 18 => opSw k a b ins.2.2.2.2 w uc us lo st
  | 19 => opGet k a b w uc us i lo st
  | 20 => opPut k a b (ftyA a b) w uc us i lo st
  | 21 => opPut k a b (ftyA a b) w uc us i lo st
  | 22 => opLen g k w uc us i lo st
  | 23 => opILd g k 0 w uc us i lo st
  | 24 => opISt k 0 w uc us i lo st
  | 25 => opILd g k 1 w uc us i lo st
  | 26 => opISt k 1 w uc us i lo st
  | 27 => opLLd k w uc us i lo st
  | 28 => opLSt k w uc us i lo st
  | 29 => opALd k w uc us i lo st
  | 30 => opASt k w uc us i lo st
  | 31 => opNew I k nb a (nfA a) (dfA a) w uc us i lo st
  | 32 => opNewA I k nb a w uc us i lo st
  | 34 => opInv g mb cs I K k Qx nb a b ins.2.2.2.2 w uc us i lo st
  | 36 => opCpy k w uc us i lo st
  | 37 => opObj k w uc us i lo st
  | 38 => opThr I Qx a w uc us st
  | 39 => opRet I Qr b w uc us st
  | 40 => k w uc us (i + 1) lo (.ref (FB + a) :: st)
  | 43 => k w uc us (i + 1) lo (g.2 a :: st)
  | 46 => opGetS g k b w uc us i lo st
  | _ => False
/-- the least set of states that is closed under going back a step: total runs -/
def EX (nb : Nat) (w : aW) (uc us i : Nat) (lo : List (Option Value)) (st : List Value) : Prop :=
  ∀ k : aK, (∀ w uc us i lo st ins, K[i]? = some ins → opS g mb cs I K k Qr Qx nb ins w uc us i lo st → k w uc us i lo st) → k w uc us i lo st
end MACH
/-- methods, so many calls deep at most -/
def Ev (g : aG) : Nat → aS
  | 0 => fun _ _ _ _ _ => False
  | d + 1 => fun mid av w Qr Qx => mid < 344 ∧ (flL av).length ≤ mlOf mid ∧ EX g mbOf (Ev g d) (infoOf mid) (codeOf mid) Qr Qx w.1 w 0 0 0 (entL av (mlOf mid)) []
