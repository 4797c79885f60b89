/-! worlds given by a list of objects: how the constructors build -/
abbrev bO : Type := (Nat × Nat × List Nat) ⊕ (Nat × List Value)
def bD : bO → va_E
  | .inl (t, n, l) => .inl (t, n, match t with
    | 0 => .inl (fun _ => 0)
    | 1 => .inr (.inl (fun _ => 0))
    | 2 => .inl (fun _ => 0)
    | 3 => .inl (fun _ => 0)
    | _ => .inr (.inr (.inr (.inr (fun i => l[i]?)))))
  | .inr x => .inr x
def bLk (z : Nat → va_E) (H : List bO) (q : Nat) : va_E := match H[q]? with
  | some o => bD o
  | none => z q
def wB (z : Nat → va_E) (H : List bO) : aW := (H.length, bLk z H)
section B
variable {z : Nat → va_E} {H l xs : List bO} {q : Nat} {o : bO} {e : va_E}
theorem bLk_s (h : H[q]? = some o) : bLk z H q = bD o := by
  unfold bLk
  rw [h]
theorem bLk_n (h : H.length ≤ q) : bLk z H q = z q := by
  unfold bLk
  rw [List.getElem?_eq_none h]
theorem bLk_c {H' : List bO} (h : H'[q]? = H[q]?) : bLk z H' q = bLk z H q := by
  unfold bLk
  rw [h]
theorem wB_at (h : H[q]? = some o) : aAt (wB z H) q (bD o) := by
  refine ⟨?_, bLk_s h⟩
  show q < H.length
  rcases Nat.lt_or_ge q H.length with c | c
  · exact c
  · rw [List.getElem?_eq_none c] at h
    cases h
theorem wB_new (he : bD o = e) : aNew (wB z H) e = wB z (H ++ [o]) := by
  subst he
  refine Prod.ext ?_ (funext fun q => ?_)
  · show H.length + 1 = (H ++ [o]).length
    rw [List.length_append, List.length_singleton]
  · show va_up (bLk z H) H.length (bD o) q = bLk z (H ++ [o]) q
    unfold va_up
    by_cases c : q = H.length
    · rw [if_pos c]
      refine (bLk_s ?_).symm
      rw [c, List.getElem?_append_right (Nat.le_refl _), Nat.sub_self]
      rfl
    · rw [if_neg c]
      rcases Nat.lt_or_ge q H.length with c2 | c2
      · exact (bLk_c (List.getElem?_append_left c2)).symm
      · rw [bLk_n c2, bLk_n (by rw [List.length_append, List.length_singleton]; omega)]
theorem wB_up (he : bD o = e) (h : q < H.length) : aUp (wB z H) q e = wB z (H.set q o) := by
  subst he
  refine Prod.ext ?_ (funext fun j => ?_)
  · show H.length = (H.set q o).length
    rw [List.length_set]
  · show va_up (bLk z H) q (bD o) j = bLk z (H.set q o) j
    unfold va_up
    by_cases c : j = q
    · subst c
      rw [if_pos rfl]
      exact (bLk_s (List.getElem?_set_self h)).symm
    · rw [if_neg c]
      exact (bLk_c (List.getElem?_set_ne (Ne.symm c))).symm
theorem ap_at {j : Nat} (hq : q = l.length + j) (h : xs[j]? = some o) : (l ++ xs)[q]? = some o := by
  subst hq
  rw [List.getElem?_append_right (Nat.le_add_right _ _), Nat.add_sub_cancel_left]
  exact h
theorem ap_set {j : Nat} (hq : q = l.length + j) : (l ++ xs).set q o = l ++ xs.set j o := by
  subst hq
  rw [List.set_append_right _ _ (Nat.le_add_right _ _), Nat.add_sub_cancel_left]
theorem ap_lt (h : H[q]? = some o) : q < H.length := by
  rcases Nat.lt_or_ge q H.length with c | c
  · exact c
  · rw [List.getElem?_eq_none c] at h
    cases h
end B
/-- a constructor without arguments: n objects, as P says -/
def Ctor (g : aG) (d mid ci n : Nat) (P : Nat → List bO) : Prop := ∀ (z : Nat → va_E) (l : List bO), l.length + n ≤ N0 → Ev g d mid [.ref l.length] (wB z (l ++ [.inr (ci, dfA ci)])) (fun v W => v = none ∧ W = wB z (l ++ P l.length)) noX
section YR
variable {g : aG} {d : Nat} {I : aInfo} {K : List aI} {Qr : Option Value → aW → Prop} {Qx : String → aW → Prop} {nb uc us i q j : Nat} {lo : List (Option Value)} {st : List Value} {z : Nat → va_E} {l xs xs' : List bO}
theorem y_new {a : Nat} (hK : K[i]? = some (aO 31 a 0)) (hN : l.length + xs.length < N0) (h2 : l.length + xs.length = nb + uc) (h3 : uc + 1 ≤ I.1) (h4 : us + nfA a ≤ I.2.1) (hx : xs ++ [.inr (a, dfA a)] = xs') (hq : l.length + xs.length = q) (k : EX g mbOf (Ev g d) I K Qr Qx nb (wB z (l ++ xs')) (uc + 1) (us + nfA a) (i + 1) lo (.ref q :: st)) : EX g mbOf (Ev g d) I K Qr Qx nb (wB z (l ++ xs)) uc us i lo st := by
  have el : (wB z (l ++ xs)).1 = l.length + xs.length := List.length_append
  refine x_new hK (by rw [el]; exact hN) (by rw [el]; exact h2) h3 h4 ?_
  rw [wB_new (o := .inr (a, dfA a)) (e := .inr (a, dfA a)) rfl, List.append_assoc, hx, el, hq]
  exact k
theorem y_newa {t n : Nat} {x : Int32} (hK : K[i]? = some (aO 32 t 0)) (hz : x = nI n) (hz2 : n ≤ 1000000) (hN : l.length + xs.length < N0) (h2 : l.length + xs.length = nb + uc) (h3 : uc + 1 ≤ I.1) (h4 : us + n ≤ I.2.1) (hx : xs ++ [.inl (t, n, [])] = xs') (hq : l.length + xs.length = q) (k : EX g mbOf (Ev g d) I K Qr Qx nb (wB z (l ++ xs')) (uc + 1) (us + n) (i + 1) lo (.ref q :: st)) : EX g mbOf (Ev g d) I K Qr Qx nb (wB z (l ++ xs)) uc us i lo (.int x :: st) := by
  have el : (wB z (l ++ xs)).1 = l.length + xs.length := List.length_append
  subst hz
  have ec : (nI n).toNatClampNeg = n := nI_clamp (by omega)
  refine x_newa (e := bD (.inl (t, n, []))) hK (Int32.not_lt.mpr (nI_leC (a := 0) (Nat.zero_le _) (by omega))) (by rw [ec]; exact hz2) (by rw [el]; exact hN) (by rw [el]; exact h2) h3 (by rw [ec]; exact h4) (by rw [ec]; rcases t with _ | _ | _ | _ | t <;> rfl) ?_
  rw [ec, wB_new rfl, List.append_assoc, hx, el, hq]
  exact k
theorem y_put {a b : Nat} {fs fs' : List Value} {v : Value} (hK : K[i]? = some (aO 20 a b) ∨ K[i]? = some (aO 21 a b)) (hq : q = l.length + j) (h : xs[j]? = some (.inr (a, fs))) (hb : b < fs.length) (hn : narrow (ftyA a b) v = v) (hf : fits (ftyA a b) v = true) (hs : fs.set b v = fs') (hx : xs.set j (.inr (a, fs')) = xs') (k : EX g mbOf (Ev g d) I K Qr Qx nb (wB z (l ++ xs')) uc us (i + 1) lo st) : EX g mbOf (Ev g d) I K Qr Qx nb (wB z (l ++ xs)) uc us i lo (v :: .ref q :: st) := by
  have ha := ap_at (l := l) hq h
  have k2 : EX g mbOf (Ev g d) I K Qr Qx nb (aUp (wB z (l ++ xs)) q (.inr (a, fs'))) uc us (i + 1) lo st := by
    rw [wB_up (o := .inr (a, fs')) (e := .inr (a, fs')) rfl (ap_lt ha), ap_set hq, hx]
    exact k
  rcases hK with hK | hK
  · exact x_put hK (wB_at ha) hb hn hf hs k2
  · exact x_putF hK (wB_at ha) hb hn hf hs k2
theorem y_get {a b : Nat} {fs : List Value} {v : Value} (hK : K[i]? = some (aO 19 a b)) (hq : q = l.length + j) (h : xs[j]? = some (.inr (a, fs))) (hf : fs[b]? = some v) (k : EX g mbOf (Ev g d) I K Qr Qx nb (wB z (l ++ xs)) uc us (i + 1) lo (v :: st)) : EX g mbOf (Ev g d) I K Qr Qx nb (wB z (l ++ xs)) uc us i lo (.ref q :: st) := x_get hK (wB_at (ap_at hq h)) hf k
theorem y_obj {w : aW} (hK : K[i]? = some (aO 37 0 0)) (hs : stW st ≤ 8) (k : EX g mbOf (Ev g d) I K Qr Qx nb w uc us (i + 1) lo st) : EX g mbOf (Ev g d) I K Qr Qx nb w uc us i lo (.ref q :: st) := x_step hK ⟨hs, k⟩
theorem y_call {mid ci n : Nat} {P : Nat → List bO} {xs0 : List bO} (hc : Ctor g d mid ci n P) (hK : K[i]? = some (aV mid 1 [100])) (hN : l.length + xs0.length + n ≤ N0) (hx : xs0 ++ [.inr (ci, dfA ci)] = xs) (hq : l.length + xs0.length = q) (h2 : l.length + xs.length = nb + uc) (hs : stW st ≤ 8) (h3 : uc + (mbOf mid).1 ≤ I.1) (h4 : us + (mbOf mid).2 ≤ I.2.1) (hx' : xs0 ++ P q = xs') (k : EX g mbOf (Ev g d) I K Qr Qx nb (wB z (l ++ xs')) (uc + (mbOf mid).1) (us + (mbOf mid).2) (i + 1) lo st) : EX g mbOf (Ev g d) I K Qr Qx nb (wB z (l ++ xs)) uc us i lo (.ref q :: st) := by
  subst hx hx' hq
  have el : (l ++ xs0).length = l.length + xs0.length := List.length_append
  have h := hc z (l ++ xs0) (by rw [el]; exact hN)
  rw [List.append_assoc, List.append_assoc, el] at h
  refine x_inv (as := [.ref (l.length + xs0.length)]) (rest := st) hK rfl rfl hs (Or.inr (List.length_append.trans h2)) trivial h3 h4 h (fun v w hq => ?_) (fun E w hx => hx.elim)
  obtain ⟨rfl, rfl⟩ := hq
  exact k
end YR
