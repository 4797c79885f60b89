/-! rules for the class's world -/
theorem mkL_len {h : Nat → Int32} : ∀ (l : List (Option Value)) (b : Nat), (mkL h b l).length = l.length := by
  intro l
  induction l with
  | nil => intro b; rfl
  | cons x l ih =>
    intro b
    have e := ih (b + 1)
    cases x with
    | some y => show (mkL h (b + 1) l).length + 1 = l.length + 1; rw [e]
    | none => show (mkL h (b + 1) l).length + 1 = l.length + 1; rw [e]
section CRULES
variable {g : aG} {d : Nat} {w : aW} {F A : Nat → Nat → Int32} {L : Nat → Int64}
variable {I : aInfo} {K : List aI} {Qr : Option Value → aW → Prop} {Qx : String → aW → Prop} {nb : Nat} {uc us i : Nat} {lo : List (Option Value)} {st : List Value}
theorem x_getC {a b q : Nat} {l : List (Option Value)} {v : Value} (hK : K[i]? = some (aO 19 a b)) (hn : w.1 = N0) (h : shp q = .fs a l) (hf : (mkL (F q) 0 l)[b]? = some v) (k : EX g mbOf (Ev g d) I K Qr Qx nb (cW w F A L) uc us (i + 1) lo (v :: st)) : EX g mbOf (Ev g d) I K Qr Qx nb (cW w F A L) uc us i lo (.ref q :: st) := x_get hK (cw_fs h hn) hf k
theorem x_putC {a b q : Nat} {l : List (Option Value)} {v : Int32} (hK : K[i]? = some (aO 20 a b)) (hn : w.1 = N0) (h : shp q = .fs a l) (hl : l[b]? = some none) (h1 : narrow (ftyA a b) (.int v) = .int v) (h2 : fits (ftyA a b) (.int v) = true) (k : EX g mbOf (Ev g d) I K Qr Qx nb (cW w (udA F q (upd (F q) b v)) A L) uc us (i + 1) lo st) : EX g mbOf (Ev g d) I K Qr Qx nb (cW w F A L) uc us i lo (.int v :: .ref q :: st) := by
  have e := mkL_set (h := F q) (v := v) l b 0 hl
  rw [Nat.zero_add] at e
  have hb : b < l.length := by
    rcases Nat.lt_or_ge b l.length with h | h
    · exact h
    · rw [List.getElem?_eq_none h] at hl; cases hl
  exact x_put hK (cw_fs h hn) (by rw [mkL_len]; exact hb) h1 h2 e (by rw [cw_uF h]; exact k)
theorem x_iaC {q n j : Nat} (hK : K[i]? = some (aO 23 0 0)) (hn : w.1 = N0) (h : shp q = .ia n) (hj : j < n ∧ n < 2 ^ 31) (k : EX g mbOf (Ev g d) I K Qr Qx nb (cW w F A L) uc us (i + 1) lo (.int (A q j) :: st)) : EX g mbOf (Ev g d) I K Qr Qx nb (cW w F A L) uc us i lo (.int (nI j) :: .ref q :: st) := x_iaN hK (cw_ia h hn) hj k
theorem x_iasC {q n j : Nat} {x : Int32} (hK : K[i]? = some (aO 24 0 0)) (hn : w.1 = N0) (h : shp q = .ia n) (hj : j < n ∧ n < 2 ^ 31) (k : EX g mbOf (Ev g d) I K Qr Qx nb (cW w F (udA A q (upd (A q) j x)) L) uc us (i + 1) lo st) : EX g mbOf (Ev g d) I K Qr Qx nb (cW w F A L) uc us i lo (.int x :: .int (nI j) :: .ref q :: st) := x_iasN hK (cw_ia h hn) hj (by rw [cw_uA h]; exact k)
theorem x_aaC {q t n b s j : Nat} (hK : K[i]? = some (aO 29 0 0)) (hn : w.1 = N0) (h : shp q = .ra t n b s) (ht : 4 ≤ t ∧ t < nTy) (hj : j < n ∧ n < 2 ^ 31) (k : EX g mbOf (Ev g d) I K Qr Qx nb (cW w F A L) uc us (i + 1) lo (.ref (b + s * j) :: st)) : EX g mbOf (Ev g d) I K Qr Qx nb (cW w F A L) uc us i lo (.int (nI j) :: .ref q :: st) :=
  x_aa hK (cw_ra h hn) ht (vp_in_nI hj.1 hj.2) (by show (if (nI j).toNatClampNeg < n then some (b + s * (nI j).toNatClampNeg) else none) = _; rw [nI_clamp (by omega), if_pos hj.1]) k
end CRULES
/-- q is a sheet: its rows lie behind it -/
def ShAt (q : Nat) : Prop := ∀ r, r < 5 → shp (q + r) = shSheet q r
theorem sh_print {B i : Nat} (hB : B = 6 ∨ B = 701) (hi : i < 60) : ShAt (B + 15 + 7 * i + 2) := by
  intro r hr
  rw [show B + 15 + 7 * i + 2 + r = B + 15 + 7 * i + (2 + r) by omega, shp_print hB hi (by omega)]
  unfold shPrint
  rw [if_neg (by omega), if_neg (by omega), show 2 + r - 2 = r by omega]
theorem sh_mark {B i : Nat} (hB : B = 6 ∨ B = 701) (hi : i < 20) : ShAt (B + 435 + 6 * i + 1) := by
  intro r hr
  rw [show B + 435 + 6 * i + 1 + r = B + 435 + 6 * i + (1 + r) by omega, shp_mark hB hi (by omega)]
  unfold shMark
  rw [if_neg (by omega), show 1 + r - 1 = r by omega]
theorem sh_turned : ShAt 1397 := by
  intro r hr
  match r, hr with
  | 0, _ => rfl
  | 1, _ => rfl
  | 2, _ => rfl
  | 3, _ => rfl
  | 4, _ => rfl
theorem sh_draft : ShAt 1409 := by
  intro r hr
  match r, hr with
  | 0, _ => rfl
  | 1, _ => rfl
  | 2, _ => rfl
  | 3, _ => rfl
  | 4, _ => rfl
theorem sh_0 {q : Nat} (h : ShAt q) : shp q = .fs 6 [rfO (q + 1), rfO (q + 2), rfO (q + 3), rfO (q + 4), none, none, none, none, none] := h 0 (by decide)
theorem sh_r {q r : Nat} (h : ShAt q) (hr : r < 4) : shp (q + (r + 1)) = .ia 8 := by
  rw [h (r + 1) (by omega)]
  unfold shSheet
  rw [if_neg (by omega)]
