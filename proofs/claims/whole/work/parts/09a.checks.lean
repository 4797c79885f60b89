/-- a method as a callee -/
def chZ (m : Nat) : Bool := let q := mhL.getD m (0, 0, 0, 0)
  atT q.1 (.initialized (yOf m).cls) && atT q.2.1 (codeW m) && decide ((yOf m).cls ≠ "java/lang/invoke/MethodHandle") && decide ((yOf m).cls ≠ "java/lang/invoke/VarHandle") && plainFor (yOf m) && ((exwOf m).isEmpty || plainName (yOf m).cls) &&
  (match kindOf m with
  | 0 => atT q.2.2.1 (.static (yOf m))
  | 1 => (exwOf m).isEmpty && atT q.2.2.1 (.instanceMethod (yOf m)) && atT q.2.2.2 (.selects (yOf m).cls (yOf m) (yOf m))
  | 2 => (exwOf m).isEmpty && atT q.2.2.1 (.instanceMethod (yOf m)) && decide ((yOf m).name = "<init>") && decide (retOf m = none)
  | _ => false) && decide (mlOf m ≤ 40)
