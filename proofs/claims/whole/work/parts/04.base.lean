/-! the abstract machine: worlds are (how many objects, what each is); a reference is an object's number; numbers from FB on are fixed things outside (texts, static rows, the script) -/
abbrev aW : Type := Nat × (Nat → va_E)
abbrev aI : Type := Nat × Nat × Nat × Value × List Nat
abbrev aInfo : Type := Nat × Nat × Option FieldType × List (Nat × Nat × Nat × String)
abbrev aS : Type := Nat → List Value → aW → (Option Value → aW → Prop) → (String → aW → Prop) → Prop
def FB : Nat := 1000000
def aO (op a b : Nat) : aI := (op, a, b, .null, [])
def aC (a : Nat) (v : Value) : aI := (2, a, 0, v, [])
def aN (a : Nat) (z : Int32) : aI := (3, a, 0, .int z, [])
def aV (mid n : Nat) (l : List Nat) : aI := (34, mid, n, .null, l)
def aT (a b : Nat) (l : List Nat) : aI := (18, a, b, .null, l)
def aAt (w : aW) (i : Nat) (e : va_E) : Prop := i < w.1 ∧ w.2 i = e
def aUp (w : aW) (i : Nat) (e : va_E) : aW := (w.1, va_up w.2 i e)
def aNew (w : aW) (e : va_E) : aW := (w.1 + 1, va_up w.2 w.1 e)
def tyT : Nat → FieldType := fun t => match t with
  | 0 => .int
  | 1 => .long
  | 2 => .byte
  | 3 => .boolean
  | 4 => .object RX4
  | 5 => .object RX3
  | 6 => .object RX0
  | _ => .object RX5
def nTy : Nat := 8
def exN (a : Nat) : String := match a with
  | 0 => "java/lang/IllegalArgumentException"
  | 1 => "java/lang/UnsupportedOperationException"
  | 2 => "java/lang/IndexOutOfBoundsException"
  | _ => "java/util/NoSuchElementException"

