/-! loops of a constructor -/
def rs (b s : Nat) : Nat → List Nat
  | 0 => []
  | n + 1 => rs b s n ++ [b + s * n]
def blk (P : Nat → List bO) (b s : Nat) : Nat → List bO
  | 0 => []
  | n + 1 => blk P b s n ++ P (b + s * n)
theorem rs_len {b s : Nat} : ∀ n, (rs b s n).length = n := by
  intro n
  induction n with
  | zero => rfl
  | succ n ih =>
    show (rs b s n ++ [b + s * n]).length = n + 1
    rw [List.length_append, ih, List.length_singleton]
theorem rs_at {b s : Nat} : ∀ n i, (rs b s n)[i]? = if i < n then some (b + s * i) else none := by
  intro n
  induction n with
  | zero => intro i; rw [if_neg (Nat.not_lt_zero _)]; rfl
  | succ n ih =>
    intro i
    show (rs b s n ++ [b + s * n])[i]? = _
    rcases Nat.lt_or_ge i n with h | h
    · rw [List.getElem?_append_left (by rw [rs_len]; exact h), ih, if_pos h, if_pos (by omega)]
    · rw [List.getElem?_append_right (by rw [rs_len]; exact h), rs_len]
      by_cases e : i = n
      · subst e
        rw [Nat.sub_self, if_pos (Nat.lt_succ_self _)]
        rfl
      · rw [if_neg (by omega), List.getElem?_eq_none (by rw [List.length_singleton]; omega)]
theorem blk_len {P : Nat → List bO} {b s : Nat} (h : ∀ y, (P y).length = s) : ∀ n, (blk P b s n).length = s * n := by
  intro n
  induction n with
  | zero => rfl
  | succ n ih =>
    show (blk P b s n ++ P (b + s * n)).length = s * (n + 1)
    rw [List.length_append, ih, h, Nat.mul_succ]
theorem bD_ra {t n : Nat} {r : List Nat} (h : 4 ≤ t) : bD (.inl (t, n, r)) = .inl (t, n, .inr (.inr (.inr (.inr fun i => r[i]?)))) := by
  rcases t with _ | _ | _ | _ | t
  · omega
  · omega
  · omega
  · omega
  · rfl
theorem ra_up {r : List Nat} {m y : Nat} (h : r.length = m) : va_up (fun i => r[i]?) m (some y) = fun i => (r ++ [y])[i]? := by
  funext i
  unfold va_up
  by_cases c : i = m
  · rw [if_pos c, List.getElem?_append_right (by omega), show i - r.length = 0 by omega]
    rfl
  · rw [if_neg c]
    rcases Nat.lt_or_ge i m with c2 | c2
    · rw [List.getElem?_append_left (by omega)]
    · show r[i]? = (r ++ [y])[i]?
      rw [List.getElem?_eq_none (show r.length ≤ i by omega), List.getElem?_eq_none (show (r ++ [y]).length ≤ i by rw [List.length_append, List.length_singleton]; omega)]
section LOOP
variable {g : aG} {d : Nat} {I : aInfo} {K : List aI} {Qr : Option Value → aW → Prop} {Qx : String → aW → Prop} {nb : Nat} {z : Nat → va_E} {l : List bO}
theorem y_aas {uc us i q j t n y m ci : Nat} {lo : List (Option Value)} {st : List Value} {xs xs' : List bO} {r : List Nat} {vs : List Value} {C : String} (hK : K[i]? = some (aO 30 0 0)) (hq : q = l.length + j) (h : xs[j]? = some (.inl (t, n, r))) (ht : 4 ≤ t ∧ t < nTy) (hC : tyT t = .object C) (hci : (vwCl[ci]?).map (fun x => x.1) = some C) (hy : (l ++ xs)[y]? = some (.inr (ci, vs))) (hr : r.length = m) (hm : m < n ∧ n < 2 ^ 31) (hx : xs.set j (.inl (t, n, r ++ [y])) = xs') (k : EX g mbOf (Ev g d) I K Qr Qx nb (wB z (l ++ xs')) uc us (i + 1) lo st) : EX g mbOf (Ev g d) I K Qr Qx nb (wB z (l ++ xs)) uc us i lo (.ref y :: .int (nI m) :: .ref q :: st) := by
  have ha := ap_at (l := l) hq h
  have hA := wB_at (z := z) ha
  rw [bD_ra ht.1] at hA
  refine x_step hK ⟨t, n, fun i => r[i]?, ci, vs, C, hA, ht, hC, hci, wB_at hy, vp_in_nI hm.1 hm.2, ?_⟩
  rw [nI_clamp (by omega), ra_up hr, wB_up (o := .inl (t, n, r ++ [y])) (bD_ra ht.1) (ap_lt ha), ap_set hq, hx]
  exact k
def lpC (p e b ci mid : Nat) (x : Int32) : List aI := [aO 0 1 0, aC 1 (.int x), aO 16 e 3, aO 0 0 1, aO 19 7 b, aO 0 1 0, aO 31 ci 0, aO 12 0 0, aV mid 1 [100], aO 30 0 0, aN 1 1, aO 17 p 0]
theorem y_loop {X : List Nat → List bO} {P : Nat → List bO} {fs : List Value} {p e n b j ci mid s t cX u0 v0 nf mu : Nat} {C : String} (hk : ∀ j x, (lpC p e b ci mid (nI n))[j]? = some x → K[p + j]? = some x) (hc : Ctor g d mid ci s P) (h0 : ∀ r B, (X r ++ B)[0]? = some (.inr (7, fs))) (hj : ∀ r B, (X r ++ B)[j]? = some (.inl (t, n, r))) (hs : ∀ r r' B, (X r ++ B).set j (.inl (t, n, r')) = X r' ++ B) (hf : fs[b]? = some (.ref (l.length + j))) (hl : ∀ r, (X r).length = cX) (hP : ∀ y, (P y).length = s) (hP0 : ∀ y, ∃ vs, (P y)[0]? = some (.inr (ci, vs))) (ht : 4 ≤ t ∧ t < nTy) (hC : tyT t = .object C) (hci : (vwCl[ci]?).map (fun x => x.1) = some C) (hn : n ≤ 60) (hN : l.length + cX + s * n ≤ N0) (hnb : l.length + cX = nb + u0) (hnf : nfA ci = nf) (hmu : mbOf mid = (s - 1, mu)) (hs1 : 1 ≤ s) (hu : u0 + s * n ≤ I.1) (hv : v0 + (nf + mu) * n ≤ I.2.1)
    (kx : EX g mbOf (Ev g d) I K Qr Qx nb (wB z (l ++ (X (rs (l.length + cX) s n) ++ blk P (l.length + cX) s n))) (u0 + s * n) (v0 + (nf + mu) * n) e [some (.ref l.length), some (.int (nI n))] []) : ∀ k i, i + k = n → EX g mbOf (Ev g d) I K Qr Qx nb (wB z (l ++ (X (rs (l.length + cX) s i) ++ blk P (l.length + cX) s i))) (u0 + s * i) (v0 + (nf + mu) * i) p [some (.ref l.length), some (.int (nI i))] [] := by
  intro k
  induction k with
  | zero =>
    intro i hi
    obtain rfl : i = n := by omega
    refine x_il (hk 0 _ rfl) rfl ?_
    refine x_c (hk 1 _ rfl) ?_
    exact x_icgeN (hk 2 _ rfl) (by omega) (fun _ => kx) (fun h => absurd h (by omega))
  | succ k ih =>
    intro i hi
    have e1 : s * (i + 1) = s * i + s := Nat.mul_succ _ _
    have e2 : s * (i + 1) ≤ s * n := Nat.mul_le_mul_left _ (by omega)
    have e3 : (nf + mu) * (i + 1) = (nf + mu) * i + (nf + mu) := Nat.mul_succ _ _
    have e4 : (nf + mu) * (i + 1) ≤ (nf + mu) * n := Nat.mul_le_mul_left _ (by omega)
    have m1 : (mbOf mid).1 = s - 1 := by rw [hmu]
    have m2 : (mbOf mid).2 = mu := by rw [hmu]
    have hb : (X (rs (l.length + cX) s i) ++ blk P (l.length + cX) s i).length = cX + s * i := by rw [List.length_append, hl, blk_len hP]
    have hb1 : ∀ o : bO, (X (rs (l.length + cX) s i) ++ blk P (l.length + cX) s i ++ [o]).length = cX + s * i + 1 := fun o => by rw [List.length_append, hb, List.length_singleton]
    obtain ⟨vs, hvs⟩ := hP0 (l.length + cX + s * i)
    refine x_il (hk 0 _ rfl) rfl ?_
    refine x_c (hk 1 _ rfl) ?_
    refine x_icgeN (hk 2 _ rfl) (by omega) (fun h => absurd h (by omega)) (fun _ => ?_)
    refine x_al (hk 3 _ rfl) rfl ?_
    refine y_get (j := 0) (hk 4 _ rfl) rfl (h0 _ _) hf ?_
    refine x_il (hk 5 _ rfl) rfl ?_
    refine y_new (q := l.length + cX + s * i) (hk 6 _ rfl) (by rw [hb]; omega) (by rw [hb]; omega) (by omega) (by rw [hnf]; omega) rfl (by rw [hb]; omega) ?_
    refine x_dup (hk 7 _ rfl) rfl ?_
    refine y_call (xs0 := X (rs (l.length + cX) s i) ++ blk P (l.length + cX) s i) (xs' := X (rs (l.length + cX) s i) ++ (blk P (l.length + cX) s i ++ P (l.length + cX + s * i))) hc (hk 8 _ rfl) (by rw [hb]; omega) rfl (by rw [hb]; omega) (by rw [hb1]; omega) (Nat.le_of_ble_eq_true rfl) (by rw [m1]; omega) (by rw [m2, hnf]; omega) (List.append_assoc _ _ _) ?_
    refine y_aas (j := j) (hk 9 _ rfl) rfl (hj _ _) ht hC hci (ap_at (j := cX + s * i) (by omega) (ap_at (j := s * i) (by rw [hl]) (ap_at (j := 0) (by rw [blk_len hP]; rfl) hvs))) (rs_len i) (by omega) (hs _ _ _) ?_
    refine x_inc1 (hk 10 _ rfl) rfl rfl ?_
    refine x_go (hk 11 _ rfl) ?_
    rw [show u0 + s * i + 1 + (mbOf mid).1 = u0 + s * (i + 1) by rw [m1]; omega, show v0 + (nf + mu) * i + nfA ci + (mbOf mid).2 = v0 + (nf + mu) * (i + 1) by rw [m2, hnf]; omega]
    exact ih (i + 1) (by omega)
end LOOP
