/-! the class's own objects 0–1423 in one piece: F their numbers by object and field, A their rows of ints, L the row of longs; what never changes (classes, lengths, references) is the shape -/
abbrev cSh := (Nat × List (Option Value)) ⊕ (Nat ⊕ (Nat ⊕ ((Nat × Nat × Nat × Nat) ⊕ Unit)))
abbrev cSh.fs (ci : Nat) (l : List (Option Value)) : cSh := .inl (ci, l)
abbrev cSh.ia (n : Nat) : cSh := .inr (.inl n)
abbrev cSh.la (n : Nat) : cSh := .inr (.inr (.inl n))
abbrev cSh.ra (t n b s : Nat) : cSh := .inr (.inr (.inr (.inl (t, n, b, s))))
abbrev cSh.no : cSh := .inr (.inr (.inr (.inr ())))
def mkL (h : Nat → Int32) : Nat → List (Option Value) → List Value
  | _, [] => []
  | k, some v :: l => v :: mkL h (k + 1) l
  | k, none :: l => .int (h k) :: mkL h (k + 1) l
def cE (F A : Nat → Nat → Int32) (L : Nat → Int64) (q : Nat) (e : va_E) : cSh → va_E
  | .inl (ci, l) => .inr (ci, mkL (F q) 0 l)
  | .inr (.inl n) => .inl (0, n, .inl (A q))
  | .inr (.inr (.inl n)) => .inl (1, n, .inr (.inl L))
  | .inr (.inr (.inr (.inl (t, n, b, s)))) => .inl (t, n, .inr (.inr (.inr (.inr fun i => if i < n then some (b + s * i) else none))))
  | .inr (.inr (.inr (.inr _))) => e
abbrev rfO (q : Nat) : Option Value := some (.ref q)
def shSheet (q r : Nat) : cSh := if r = 0 then .fs 6 [rfO (q + 1), rfO (q + 2), rfO (q + 3), rfO (q + 4), none, none, none, none, none] else .ia 8
def shPrint (q r : Nat) : cSh := if r = 0 then .fs 4 [rfO (q + 1), rfO (q + 2), none, none, none] else if r = 1 then .ia 64 else shSheet (q + 2) (r - 2)
def shMark (q r : Nat) : cSh := if r = 0 then .fs 3 [rfO (q + 1), none, none] else shSheet (q + 1) (r - 1)
def shCard (q r : Nat) : cSh := if r = 0 then .fs 0 [none, none, none, rfO (q + 1), rfO (q + 2), rfO (q + 3), rfO (q + 4)] else if r = 4 then .ia 3 else .ia 10
def shText (q r : Nat) : cSh := if r = 0 then .fs 5 [none, none, none, rfO (q + 1), rfO (q + 2), rfO (q + 3), rfO (q + 4), rfO (q + 5)] else if r = 5 then .ia 400 else .ia 12
def shTab (most width q r : Nat) : cSh := if r = 0 then .fs 8 [some (.int (nI most)), some (.int (nI width)), rfO (q + 1), none] else .ia (most * width)
/-- the State that begins at B, its object B + r -/
def shSt (B r : Nat) : cSh :=
  if r = 0 then .fs 7 [none, none, none, none, none, none, none, none, rfO (B + 1), rfO (B + 2), rfO (B + 3), rfO (B + 4), rfO (B + 5), rfO (B + 11), rfO (B + 13)]
  else if r = 1 then .ra 4 60 (B + 15) 7 else if r = 2 then .ra 5 20 (B + 435) 6 else if r = 3 then .ra 6 16 (B + 555) 5 else if r = 4 then .ra 7 10 (B + 635) 6
  else if r < 11 then shText (B + 5) (r - 5)
  else if r < 13 then shTab 200 6 (B + 11) (r - 11)
  else if r < 15 then shTab 200 7 (B + 13) (r - 13)
  else if r < 435 then shPrint (B + 15 + 7 * ((r - 15) / 7)) ((r - 15) % 7)
  else if r < 555 then shMark (B + 435 + 6 * ((r - 435) / 6)) ((r - 435) % 6)
  else if r < 635 then shCard (B + 555 + 5 * ((r - 555) / 5)) ((r - 555) % 5)
  else shText (B + 635 + 6 * ((r - 635) / 6)) ((r - 635) % 6)
def shp (q : Nat) : cSh :=
  if q = 0 then .fs 10 [rfO 1, rfO 6, rfO 701, none, rfO 1396, rfO 1405, rfO 1407, rfO 1414, rfO 1420, rfO 1421, rfO 1422, rfO 1423]
  else if q = 1 then .fs 9 [rfO 2, none, none, rfO 3, rfO 4, rfO 5, none, none]
  else if q < 6 then .ia 400
  else if q < 701 then shSt 6 (q - 6)
  else if q < 1396 then shSt 701 (q - 701)
  else if q = 1396 then .fs 2 [none, none, none, none, none, none, rfO 1397, rfO 1402, rfO 1403, none, rfO 1404, none]
  else if q < 1402 then shSheet 1397 (q - 1397)
  else if q < 1404 then .ia 8
  else if q = 1404 then .ia 28800
  else if q = 1405 then .fs 1 [rfO 1406, none]
  else if q = 1406 then .la 5
  else if q < 1414 then shPrint 1407 (q - 1407)
  else if q < 1420 then shText 1414 (q - 1414)
  else if q < 1422 then .ia 16
  else if q = 1422 then .ia 6
  else if q = 1423 then .ia 16
  else .no
def cW (w : aW) (F A : Nat → Nat → Int32) (L : Nat → Int64) : aW := (w.1, fun q => cE F A L q (w.2 q) (shp q))
theorem shp_ge {q : Nat} (h : 1424 ≤ q) : shp q = .no := by
  unfold shp
  iterate 16 rw [if_neg (by omega)]
/-- an object of a State -/
theorem shp_st {B r : Nat} (hB : B = 6 ∨ B = 701) (hr : r < 695) : shp (B + r) = shSt B r := by
  unfold shp
  rcases hB with rfl | rfl
  · iterate 3 rw [if_neg (by omega)]
    rw [if_pos (by omega), show 6 + r - 6 = r by omega]
  · iterate 4 rw [if_neg (by omega)]
    rw [if_pos (by omega), show 701 + r - 701 = r by omega]
theorem shp_print {B i r : Nat} (hB : B = 6 ∨ B = 701) (hi : i < 60) (hr : r < 7) : shp (B + 15 + 7 * i + r) = shPrint (B + 15 + 7 * i) r := by
  rw [show B + 15 + 7 * i + r = B + (15 + 7 * i + r) by omega, shp_st hB (by omega)]
  unfold shSt
  iterate 8 rw [if_neg (by omega)]
  rw [if_pos (by omega), show (15 + 7 * i + r - 15) / 7 = i by omega, show (15 + 7 * i + r - 15) % 7 = r by omega]
theorem shp_mark {B i r : Nat} (hB : B = 6 ∨ B = 701) (hi : i < 20) (hr : r < 6) : shp (B + 435 + 6 * i + r) = shMark (B + 435 + 6 * i) r := by
  rw [show B + 435 + 6 * i + r = B + (435 + 6 * i + r) by omega, shp_st hB (by omega)]
  unfold shSt
  iterate 9 rw [if_neg (by omega)]
  rw [if_pos (by omega), show (435 + 6 * i + r - 435) / 6 = i by omega, show (435 + 6 * i + r - 435) % 6 = r by omega]
theorem shp_card {B i r : Nat} (hB : B = 6 ∨ B = 701) (hi : i < 16) (hr : r < 5) : shp (B + 555 + 5 * i + r) = shCard (B + 555 + 5 * i) r := by
  rw [show B + 555 + 5 * i + r = B + (555 + 5 * i + r) by omega, shp_st hB (by omega)]
  unfold shSt
  iterate 10 rw [if_neg (by omega)]
  rw [if_pos (by omega), show (555 + 5 * i + r - 555) / 5 = i by omega, show (555 + 5 * i + r - 555) % 5 = r by omega]
theorem shp_text {B i r : Nat} (hB : B = 6 ∨ B = 701) (hi : i < 10) (hr : r < 6) : shp (B + 635 + 6 * i + r) = shText (B + 635 + 6 * i) r := by
  rw [show B + 635 + 6 * i + r = B + (635 + 6 * i + r) by omega, shp_st hB (by omega)]
  unfold shSt
  iterate 11 rw [if_neg (by omega)]
  rw [show (635 + 6 * i + r - 635) / 6 = i by omega, show (635 + 6 * i + r - 635) % 6 = r by omega]
section CW
variable {w : aW} {F A : Nat → Nat → Int32} {L : Nat → Int64}
theorem cw_at {q : Nat} {s : cSh} (h : shp q = s) (hs : s ≠ .no) (hn : w.1 = N0) : aAt (cW w F A L) q (cE F A L q (w.2 q) s) := by
  refine ⟨?_, ?_⟩
  · show q < w.1
    rw [hn]
    rcases Nat.lt_or_ge q 1424 with h1 | h1
    · exact Nat.lt_of_lt_of_le h1 (by decide)
    · exact absurd (h.symm.trans (shp_ge h1)) hs
  · show cE F A L q (w.2 q) (shp q) = _
    rw [h]
theorem cw_fs {q ci : Nat} {l : List (Option Value)} (h : shp q = .fs ci l) (hn : w.1 = N0) : aAt (cW w F A L) q (.inr (ci, mkL (F q) 0 l)) := cw_at h (by intro e; cases e) hn
theorem cw_ia {q n : Nat} (h : shp q = .ia n) (hn : w.1 = N0) : aAt (cW w F A L) q (.inl (0, n, .inl (A q))) := cw_at h (by intro e; cases e) hn
theorem cw_la {q n : Nat} (h : shp q = .la n) (hn : w.1 = N0) : aAt (cW w F A L) q (.inl (1, n, .inr (.inl L))) := cw_at h (by intro e; cases e) hn
theorem cw_ra {q t n b s : Nat} (h : shp q = .ra t n b s) (hn : w.1 = N0) : aAt (cW w F A L) q (.inl (t, n, .inr (.inr (.inr (.inr fun i => if i < n then some (b + s * i) else none))))) := cw_at h (by intro e; cases e) hn
theorem cw_up {q0 : Nat} {e : va_E} {F1 A1 : Nat → Nat → Int32} {L1 : Nat → Int64} (h0 : cE F1 A1 L1 q0 (w.2 q0) (shp q0) = e) (h : ∀ q, q ≠ q0 → cE F1 A1 L1 q (w.2 q) (shp q) = cE F A L q (w.2 q) (shp q)) : aUp (cW w F A L) q0 e = cW w F1 A1 L1 := by
  show ((w.1, va_up (cW w F A L).2 q0 e) : aW) = (w.1, fun q => cE F1 A1 L1 q (w.2 q) (shp q))
  refine congrArg (Prod.mk w.1) (funext fun q => ?_)
  unfold va_up
  by_cases hq : q = q0
  · subst hq
    simp only [if_true]
    exact h0.symm
  · simp only [hq, if_false]
    exact (h q hq).symm
theorem cw_uF {q0 ci : Nat} {l : List (Option Value)} {h1 : Nat → Int32} (h : shp q0 = .fs ci l) : aUp (cW w F A L) q0 (.inr (ci, mkL h1 0 l)) = cW w (udA F q0 h1) A L := by
  refine cw_up ?_ fun q hq => ?_
  · rw [h]
    show (.inr (ci, mkL (udA F q0 h1 q0) 0 l) : va_E) = _
    unfold udA
    rw [if_pos rfl]
  · match shp q with
    | .inl (ci, l) =>
      show (.inr (ci, mkL (udA F q0 h1 q) 0 l) : va_E) = .inr (ci, mkL (F q) 0 l)
      unfold udA
      rw [if_neg hq]
    | .inr (.inl n) => rfl
    | .inr (.inr (.inl n)) => rfl
    | .inr (.inr (.inr (.inl (t, n, b, s)))) => rfl
    | .inr (.inr (.inr (.inr _))) => rfl
theorem cw_uA {q0 n : Nat} {h1 : Nat → Int32} (h : shp q0 = .ia n) : aUp (cW w F A L) q0 (.inl (0, n, .inl h1)) = cW w F (udA A q0 h1) L := by
  refine cw_up ?_ fun q hq => ?_
  · rw [h]
    show (.inl (0, n, .inl (udA A q0 h1 q0)) : va_E) = _
    unfold udA
    rw [if_pos rfl]
  · match shp q with
    | .inr (.inl n) =>
      show (.inl (0, n, .inl (udA A q0 h1 q)) : va_E) = .inl (0, n, .inl (A q))
      unfold udA
      rw [if_neg hq]
    | .inl (ci, l) => rfl
    | .inr (.inr (.inl n)) => rfl
    | .inr (.inr (.inr (.inl (t, n, b, s)))) => rfl
    | .inr (.inr (.inr (.inr _))) => rfl
theorem la_sheet {q r n : Nat} : shSheet q r ≠ .la n := by unfold shSheet; split <;> (intro e; cases e)
theorem la_text {q r n : Nat} : shText q r ≠ .la n := by unfold shText; repeat' split
                                                         all_goals (intro e; cases e)
theorem la_print {q r n : Nat} : shPrint q r ≠ .la n := by
  unfold shPrint
  repeat' split
  all_goals first | exact la_sheet | (intro e; cases e)
theorem la_mark {q r n : Nat} : shMark q r ≠ .la n := by
  unfold shMark
  repeat' split
  all_goals first | exact la_sheet | (intro e; cases e)
theorem la_card {q r n : Nat} : shCard q r ≠ .la n := by
  unfold shCard
  repeat' split
  all_goals (intro e; cases e)
theorem la_tab {a b q r n : Nat} : shTab a b q r ≠ .la n := by
  unfold shTab
  repeat' split
  all_goals (intro e; cases e)
theorem ite_la {c : Prop} [Decidable c] {a b x : cSh} (h1 : c → a ≠ x) (h2 : ¬ c → b ≠ x) : (if c then a else b) ≠ x := by
  by_cases h : c
  · rw [if_pos h]; exact h1 h
  · rw [if_neg h]; exact h2 h
theorem la_st {q r n : Nat} : shSt q r ≠ .la n := by
  unfold shSt
  repeat' (with_reducible refine ite_la (fun _ => ?_) (fun _ => ?_))
  all_goals first | with_reducible exact la_text | with_reducible exact la_print | with_reducible exact la_mark | with_reducible exact la_card | with_reducible exact la_tab | (intro e; cases e)
theorem la_shp {q n : Nat} (h : q ≠ 1406) : shp q ≠ .la n := by
  unfold shp
  repeat' (with_reducible refine ite_la (fun _ => ?_) (fun _ => ?_))
  all_goals first | with_reducible exact la_text | with_reducible exact la_print | with_reducible exact la_st | with_reducible exact la_sheet | contradiction | (intro e; cases e)
theorem cw_uL {h1 : Nat → Int64} : aUp (cW w F A L) 1406 (.inl (1, 5, .inr (.inl h1))) = cW w F A h1 := by
  refine cw_up rfl fun q hq => ?_
  match h : shp q with
  | .inr (.inr (.inl n)) => exact absurd h (la_shp hq)
  | .inr (.inl n) => rfl
  | .inl (ci, l) => rfl
  | .inr (.inr (.inr (.inl (t, n, b, s)))) => rfl
  | .inr (.inr (.inr (.inr _))) => rfl
theorem mkL_out {h : Nat → Int32} {v : Int32} {j : Nat} : ∀ (l : List (Option Value)) (b : Nat), j < b → mkL (upd h j v) b l = mkL h b l := by
  intro l
  induction l with
  | nil => intro b _; rfl
  | cons x l ih =>
    intro b hb
    have e := ih (b + 1) (by omega)
    cases x with
    | some y => show y :: _ = y :: _; rw [e]
    | none =>
      show Value.int (upd h j v b) :: _ = Value.int (h b) :: _
      rw [e, show upd h j v b = h b by unfold upd; rw [if_neg (by omega)]]
theorem mkL_set {h : Nat → Int32} {v : Int32} : ∀ (l : List (Option Value)) (k b : Nat), l[k]? = some none → (mkL h b l).set k (.int v) = mkL (upd h (b + k) v) b l := by
  intro l
  induction l with
  | nil => intro k b hl; simp at hl
  | cons x l ih =>
    intro k b hl
    cases k with
    | zero =>
      have hx : x = none := by simpa using hl
      subst hx
      show Value.int v :: mkL h (b + 1) l = Value.int (upd h (b + 0) v b) :: mkL (upd h (b + 0) v) (b + 1) l
      rw [mkL_out l (b + 1) (by omega), show upd h (b + 0) v b = v by unfold upd; rw [if_pos (by omega)]]
    | succ k =>
      have e := ih k (b + 1) (by simpa using hl)
      rw [show b + 1 + k = b + (k + 1) by omega] at e
      cases x with
      | some y => show y :: _ = y :: _; rw [← e]
      | none =>
        show Value.int (h b) :: _ = Value.int (upd h (b + (k + 1)) v b) :: _
        rw [show upd h (b + (k + 1)) v b = h b by unfold upd; rw [if_neg (by omega)], ← e]
end CW
