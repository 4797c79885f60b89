/-! soundness: contracts, calls, catches -/
def rmD (d mc ms : Nat) : Room := { frames := 8 + d, cells := mc, slots := ms, locals := 200 + 60 * d }
def WdS (π : aP) (w : aW) (U : State) : Prop := va_P π.1 vwCl (wl π w) U.heap ∧ va_D (PA π) (wl π w) ∧ va_K π.1 vwCl (tysL π) U ∧ FxS π U U.heap ∧ w.1 ≤ N0 ∧ π.2.2.1 ≤ U.heap.size ∧ (w.1 < N0 → U.heap.size = π.2.2.1 + w.1)
def QcA (π : aP) (Qr : Option Value → aW → Prop) : Array Value → State → Outcome → State → Prop := fun _ st o t => (∃ (v : Option Value) (w' : aW), o = .returned (v.map (tV (Pad π))) ∧ Qr v w' ∧ va_P π.1 vwCl (wl π w') t.heap ∧ va_D (PA π) (wl π w') ∧ w'.1 ≤ N0) ∧ va_F (PA π) st t
def XcA (π : aP) (Qx : String → aW → Prop) : String → State → State → Prop := fun E st t => (∃ w' : aW, Qx E w' ∧ va_P π.1 vwCl (wl π w') t.heap ∧ va_D (PA π) (wl π w') ∧ w'.1 ≤ N0) ∧ va_F (PA π) st t
def PcA (π : aP) (av : List Value) (w : aW) : Array Value → State → Prop := va_Pc (av.map (tV (Pad π))) (WdS π w)
/-- a method's contract at depth d -/
def MA (l : Launch) (π : aP) (d mid : Nat) (av : List Value) (w : aW) (Qr : Option Value → aW → Prop) (Qx : String → aW → Prop) : Prop :=
  vx_Met l (yOf mid) (codeW mid :: WS) (rmD d (mbOf mid).1 (mbOf mid).2) (PcA π av w) (QcA π Qr) (XcA π Qx) (mbOf mid).1 (mbOf mid).2 (PA π)
theorem PcA_blind {π : aP} {av : List Value} {w : aW} : FrameBlind (PcA π av w) := by
  intro a U g mk h
  obtain ⟨h1, h2, h3, h4, h5, h6, h7, h8⟩ := h
  exact ⟨h1, h2, h3, va_K.moved (u := U) (U := U.calling g mk a) (Vm.Alike.refl U.vm) h4, h5.to (State.WarmedH.refl U) (fun _ _ _ => rfl), h6, h7, h8⟩
section SCALL
variable {π : aP} {p : Program} {l : Launch} {e : Env} {R : Room} {s : State} {m : MethodId} {args : Array Value} {below : List Frame} {meth : Method} {c : Code} {QQ : State → Prop}
variable {own : String} {cc : ByteArray} {nL nb : Nat} {pcs : Nat → Nat} {k : aK} {w : aW} {uc us i : Nat} {lo : List (Option Value)} {st : List Value} {H : Heap} {locs : List Loc} {ls : Array Slot} {J : Instr} {n : Nat} {I : aInfo}
theorem PcA_pre (C : CTX π own cc nL nb p s m args c) (hI : InvW π w s H locs) (hw : w.1 = N0 ∨ w.1 = nb + uc) (h6 : H.size ≤ s.heap.size + uc) (as : List Value) : ∀ U : State, U.heap = H → s.WarmedH U.vm → PcA π as w (as.map (tV (Pad π))).toArray U := by
  intro U hU hW
  obtain ⟨hx, hb, hml, hown, hts, hK, hF, hsz, hnb⟩ := C
  have hlo := hI.lo hsz
  obtain ⟨hP, hD, hS, hN⟩ := hI
  refine ⟨rfl, by rw [hU]; exact hP, hD, va_K.moved hW.alike hK, by rw [hU]; exact hF.to hW hS.2.1, hN, by rw [hU]; exact Nat.le_trans hsz hS.1, fun h => ?_⟩
  rw [hU]
  rcases hw with h9 | h9
  · omega
  · have := hnb (by omega)
    omega
theorem so_run {mc ms : Nat} {a9 : Array Value} {stC rest : List Value} {Qr' : Option Value → aW → Prop} {Qx' : String → aW → Prop} (hsz : π.2.2.1 ≤ s.heap.size)
    (hr : vx_Run p l e R s m args below meth c H locs uc us mc ms (F0 m (pcs i) ls stC) (rest.map (tV (Pad π))) (QcA π Qr' a9) (XcA π Qx') (PA π)) (hI : InvW π w s H locs)
    (kr : ∀ v w', Qr' v w' → ∀ H1 locs1, InvW π w' s H1 locs1 → W p l e R s m args below meth c H1 locs1 (uc + mc) (us + ms) QQ (F0 m (pcs i + 3) ls ((v.toList ++ rest).map (tV (Pad π)))))
    (kx : ∀ E w', Qx' E w' → ∀ H1 locs1 q ce, InvW π w' s H1 locs1 → H1[q]? = some ce → ce.vm = .none → s.vm.findClass E = some ce.cls → vx_W p l e R s m args below meth c H1 locs1 (uc + mc) (us + ms) QQ (F0 m (pcs i) ls (rest.map (tV (Pad π)))) q) :
    W p l e R s m args below meth c H locs uc us QQ (F0 m (pcs i) ls stC) := by
  obtain ⟨hP, hD, hS, hN⟩ := hI
  intro T hT X
  rcases hr T hT X with ⟨v, st₀, t, T', L, h0, X', hL, e1, e2, ⟨⟨v', w', hv, hq, hP', hD', hN'⟩, hF⟩, st9⟩ | ⟨q, st₀, t, T', L, E, ce, h0, X', hL, e1, e2, ⟨⟨w', hq, hP', hD', hN'⟩, hF⟩, hce, hcv, hcl, st9⟩
  · cases hv
    obtain ⟨k1, k2, k3⟩ := vx_keep h0 e1 hS (fun _ _ h => h) (fun _ h => h) hL hF
    obtain ⟨t2, a1, b1⟩ := kr v' w' hq T'.heap (locs ++ L) ⟨by rw [e1]; exact hP', hD', k3, hN'⟩ T' rfl X'
    refine ⟨t2, st9 t2 ?_, b1⟩
    have e9 : (Option.map (tV (Pad π)) v').toList ++ rest.map (tV (Pad π)) = (v'.toList ++ rest).map (tV (Pad π)) := by
      cases v' <;> simp
    rw [e9]
    exact a1
  · obtain ⟨k1, k2, k3⟩ := vx_keep h0 e1 hS (fun _ _ h => h) (fun _ h => h) hL hF
    obtain ⟨t2, a1, b1⟩ := kx E w' hq T'.heap (locs ++ L) q ce ⟨by rw [e1]; exact hP', hD', k3, hN'⟩ (by rw [e1]; exact hce) hcv hcl T' rfl X'
    exact ⟨t2, st9.trans a1, b1⟩
/-- a store of a caught thing: its local is unknown then -/
theorem LH.st0 {ls' : Array Slot} {a : Nat} {x : Value} (h : LH π ls nL lo) (h' : lv_has ls' nL ((a, x) :: (prs π nL lo).filter (fun q => !(q.1 == a) && !(q.1 + 1 == a && q.2.category == 2)))) : LH π ls' nL ((clr lo a).set a none) := by
  refine ⟨h'.1, by rw [List.length_set, clr_len]; exact h.2.1, h'.2.1, fun j u hu => ?_⟩
  rw [List.getElem?_set] at hu
  split at hu
  · split at hu <;> cases hu
  · rename_i hne
    obtain ⟨h1, h2⟩ := clr_get hu
    have hj : j < nL := by
      have := (List.getElem?_eq_some_iff.mp h1).1
      rw [h.2.1] at this
      exact this
    refine h'.2.2 (j, tV (Pad π) u) (List.mem_cons_of_mem _ (List.mem_filter.mpr ⟨prs_mem.mpr ⟨hj, u, h1, rfl⟩, ?_⟩))
    have h3 : ¬ j = a := fun q => hne q.symm
    simp only [tV_cat, Bool.and_eq_true, Bool.not_eq_true', beq_eq_false_iff_ne, Bool.and_eq_false_imp, beq_iff_eq]
    refine ⟨h3, fun h4 => ?_⟩
    simpa using fun h5 => h2 ⟨h4, h5⟩
/-- the table of handlers, by places and by bytes -/
def HndOK (own : String) (pcs : Nat → Nat) (len : Nat) : List (Nat × Nat × Nat × String) → List (Nat × Nat × Nat × Nat) → Prop
  | [], [] => True
  | (a, b, h, nm) :: r, (sp, ep, hp, ct) :: r' => a ≤ len ∧ b ≤ len ∧ sp = pcs a ∧ ep = pcs b ∧ hp = pcs h ∧ ct ≠ 0 ∧ Cond.classLink own ct nm ∈ WS ∧ (∃ j, j < 4 ∧ nm = exN j) ∧ HndOK own pcs len r r'
  | _, _ => False
theorem hnd_nc (C : CTX π own cc nL nb p s m args c) {E nm : String} (hE : ∃ j, j < 4 ∧ E = exN j) (hn : ∃ j, j < 4 ∧ nm = exN j) (hne : ¬ nm = E) : va_Nc E nm s := by
  obtain ⟨hx, hb, hml, hown, hts, hK, hF, hsz, hnb⟩ := C
  obtain ⟨j, hj, rfl⟩ := hE
  obtain ⟨j2, hj2, rfl⟩ := hn
  exact hF.2.2.2.2.2.2.1 j j2 hj hj2 (fun h => hne (by rw [h]))
theorem hnd_find (C : CTX π own cc nL nb p s m args c) {len : Nat} (hmono : ∀ x y, x < y → y ≤ len → pcs x < pcs y) (hi : i < len) {E : String} {h : Nat} : ∀ (hs : List (Nat × Nat × Nat × String)) (xs : List (Nat × Nat × Nat × Nat)), HndOK own pcs len hs xs → hndA hs E i = some h →
    (∃ j, j < 4 ∧ E = exN j) ∧ ((∃ j, j < 4 ∧ E = exN j) → ∃ pre x suf, tableOf xs = pre ++ x :: suf ∧ (∀ z ∈ pre, covers z (pcs i) = false ∨ (z.catchType ≠ 0 ∧ ∃ nm : String, (Cond.classLink own z.catchType nm).before args s = true ∧ va_Nc E nm s)) ∧ covers x (pcs i) = true ∧ x.catchType ≠ 0 ∧ (Cond.classLink own x.catchType E).before args s = true ∧ x.handlerPc = pcs h) := by
  intro hs
  induction hs with
  | nil => intro xs _ h2; cases h2
  | cons q r ih =>
    intro xs h1 h2
    obtain ⟨a, b, h9, nm⟩ := q
    match xs, h1 with
    | (sp, ep, hp, ct) :: r', h1 =>
      obtain ⟨g1, g2, rfl, rfl, rfl, g3, g4, g5, g6⟩ := h1
      have mle : ∀ x y, x ≤ y → y ≤ len → pcs x ≤ pcs y := fun x y hxy hy => by
        rcases Nat.lt_or_ge x y with hlt | hge
        · exact Nat.le_of_lt (hmono x y hlt hy)
        · rw [show x = y by omega]; exact Nat.le_refl _
      unfold hndA at h2
      split at h2
      · rename_i hc
        obtain ⟨c1, c2, c3⟩ := hc
        cases h2
        subst c3
        refine ⟨g5, fun _ => ⟨[], ⟨pcs a, pcs b, pcs h, ct⟩, tableOf r', rfl, fun z hz => absurd hz List.not_mem_nil, ?_, g3, C.2.2.2.2.1 _ g4, rfl⟩⟩
        simp only [covers, Bool.and_eq_true, decide_eq_true_eq]
        exact ⟨mle a i c1 (by omega), hmono i b c2 g2⟩
      · rename_i hc
        obtain ⟨e1, e2⟩ := ih r' g6 h2
        refine ⟨e1, fun hE => ?_⟩
        obtain ⟨pre, x, suf, f1, f2, f3, f4, f5, f6⟩ := e2 hE
        refine ⟨⟨pcs a, pcs b, pcs h9, ct⟩ :: pre, x, suf, by show _ :: tableOf r' = _; rw [f1]; rfl, fun z hz => ?_, f3, f4, f5, f6⟩
        rcases List.mem_cons.mp hz with rfl | hz
        · by_cases hcov : a ≤ i ∧ i < b
          · exact Or.inr ⟨g3, nm, C.2.2.2.2.1 _ g4, hnd_nc C hE g5 (fun h => hc ⟨hcov.1, hcov.2, h⟩)⟩
          · left
            simp only [covers, Bool.and_eq_false_iff, decide_eq_false_iff_not]
            by_cases ha : a ≤ i
            · right
              have : b ≤ i := by omega
              have := mle b i this (by omega)
              omega
            · left
              have := hmono i a (by omega) g1
              omega
        · exact f2 z hz
theorem ex_cast : [0, 1, 2, 3].all (fun a => decide (Cond.castable (exN a) (exN a) ∈ lw_tbl)) = true := by decide +kernel
theorem so_catch (C : CTX π own cc nL nb p s m args c) (hk : KS π p l e R s m args below meth c QQ nL pcs k) {len : Nat} (hmono : ∀ x y, x < y → y ≤ len → pcs x < pcs y) (hi : i < len) {hs : List (Nat × Nat × Nat × String)} {xs : List (Nat × Nat × Nat × Nat)} (hok : HndOK own pcs len hs xs) (htab : c.exceptionTable.toList = tableOf xs)
    {E : String} {h a : Nat} (hf : hndA hs E i = some h) {ini : Bool} {vv : Value} {ll : List Nat} (hins : OKI own cc ini pcs h (45, a, 0, vv, ll)) (ha : a < lo.length) (ho : k w uc us (h + 1) ((clr lo a).set a none) []) (hI : InvW π w s H locs) (hl : LH π ls nL lo)
    {q : Nat} {ce : Cell} (hce : H[q]? = some ce) (hcv : ce.vm = .none) (hcl : s.vm.findClass E = some ce.cls) {rest : List Value} :
    vx_W p l e R s m args below meth c H locs uc us QQ (F0 m (pcs i) ls rest) q := by
  obtain ⟨hE, hfd⟩ := hnd_find C hmono hi hs xs hok hf
  obtain ⟨pre, x, suf, f1, f2, f3, f4, f5, f6⟩ := hfd hE
  obtain ⟨hx, hb, hml, hown, hts, hK, hF, hsz, hnb⟩ := C
  have hca : (Cond.castable E E).before args s = true := by
    obtain ⟨j, hj, rfl⟩ := hE
    have h1 := List.all_eq_true.mp ex_cast j (by simp; omega)
    exact va_Nw.use rfl (hF.2.2.2.2.2.1 _ (of_decide_eq_true h1) rfl)
  refine vx_catch hown pre x suf (by rw [htab, f1]) f2 f3 f4 f5 hca hce hcv hcl ?_
  rw [f6]
  obtain ⟨J, n, hd, hn, hj⟩ := hins
  rw [hl.2.1] at ha
  simp only [stJ] at hj
  have kk : ∀ ls' : Array Slot, lv_has ls' nL _ → _ := fun ls' h' => hk.at ho hn hI (hl.st0 (x := Value.ref q) h')
  rcases hj with ⟨rfl, rfl⟩ | ⟨z, rfl, hz, rfl⟩
  · exact lv_astore hx hb hd hl.has ha rfl kk
  · exact lv_astore_n hx hb hd hz hl.has ha rfl kk
end SCALL
