/-! soundness: calls, throws, returns, whole bodies -/
theorem so_wide9 : (nestTab.all (fun q => !(decide (yOf 221 = q.2.2.1)) && !(decide (yOf 222 = q.2.2.1)))) = true := by decide +kernel
theorem so_wideK {mid : Nat} (h : mid = 221 ∨ mid = 222) : kindOf mid = 0 ∧ exwOf mid = [] ∧ mlOf mid ≤ 20 := by
  rcases h with rfl | rfl <;> decide +kernel
section WIDE
variable {p : Program} {l : Launch} {e : Env} {R : Room} {s : State} {m : MethodId} {args : Array Value} {below : List Frame} {meth : Method} {c : Code} {H : Heap} {locs : List Loc} {cells slots : Nat}
variable {y : MethodName} {bytes cc : ByteArray} {maxL nL mc ms n index : Nat} {ret : Option FieldType} {ws : List Cond} {rm : Room} {Pc : Array Value → State → Prop} {Qc : Array Value → State → Outcome → State → Prop} {XC : String → State → State → Prop} {free : Addr → Prop} {Ts : List Cond} {own C : String} {b : Addr} {As rest : List Value} {g : JFrame}
/-- a static call with up to 12 words below its arguments -/
theorem so_runSW (S : CallFix p m c cc nL s args Ts own) (hM : vx_Met l y ws rm Pc Qc XC mc ms free) (hlo12 : 12 + (maxL + 11) + rm.locals ≤ R.locals) (cw : CallB R s args own index y bytes maxL ret ws rm mc ms n ∧ (Cond.static y).before args s = true) (hp : PreS s H Pc As)
    (hg : g.method = m) (hn : As.length = n) (hsize : g.locals.size = nL) (hstack : g.stack = As.reverse ++ rest) (hW : 2 * g.monitorRoom + (rest.map fun v => v.category).sum ≤ 12) (hdg : decode cc g.pc = .ok (.invokestatic index, 3)) (hf : cells + mc ≤ R.cells ∧ slots + ms ≤ R.slots) :
    vx_Run p l e R s m args below meth c H locs cells slots mc ms g rest (Qc As.toArray) XC free := by
  have hK : vx_Back l R p e below s args y 3 12 (PreOf R mc ms Pc) (PostOf Qc mc ms free) (vx_Post XC mc ms free) := by
    obtain ⟨⟨hrc, hrs, hfr, -, hws, hcw, -, hini, -⟩, -⟩ := cw
    exact vx_back (bytes := bytes) (maxL := maxL) (ret := ret) hM hp.1 hrc hrs hfr hlo12 hws hcw (fun a' U hW => word_at hW (Or.inl (by first | rfl | simp [Cond.onTables, Cond.keeps, Cond.steady])) hini)
  obtain ⟨⟨-, -, -, -, -, -, hcode, hini, hy, hlen, hl⟩, hstt⟩ := cw
  obtain ⟨hx, hb, hml, ho, -⟩ := S
  intro T hT X
  rcases vx_callS X hx (bytes := bytes) (maxL := maxL) (ret := ret) ho hl hstt hini hcode hy hK hg (hsize.trans hml.symm) (argsL := As) (rest := rest) (fun sig h => hn.trans (hlen sig h)) hstack hW (by rw [hb]; exact hdg)
    (fun vm₁ hW₁ => ⟨hf.1, hf.2, hp.2 (T.setVm vm₁) hT hW₁⟩) with ⟨v, vm₁, ⟨U', l2, c2, s2⟩, hW₁, X', ⟨g', mk, t, L, e1, e2, hq, h1, hL, h2, h3⟩, st⟩ | ⟨q, vm₁, ⟨U', l2, c2, s2⟩, hW₁, X', ⟨g', mk, t, L, E, ce, e1, e2, hq, hce, hcv, hcl, h1, hL, h2, h3⟩, st⟩
  · dsimp only [Pt.U, Pt.locs, Pt.cells, Pt.slots] at X' e1 e2 h1 h2 h3 st
    subst h1; subst h2; subst h3
    exact Or.inl ⟨v, (T.setVm vm₁).calling g' mk As.toArray, t, U', L, hT, X', hL, e1, e2, hq, st⟩
  · dsimp only [Pt.U, Pt.locs, Pt.cells, Pt.slots] at X' e1 e2 h1 h2 h3 st hcl
    subst h1; subst h2; subst h3
    exact Or.inr ⟨q, (T.setVm vm₁).calling g' mk As.toArray, t, U', L, E, ce, hT, X', hL, e1, e2, hq, hce, hcv, vx_cls hW₁ hcl, st⟩
end WIDE
section SINV
variable {π : aP} {p : Program} {l : Launch} {e : Env} {R : Room} {s : State} {m : MethodId} {args : Array Value} {below : List Frame} {meth : Method} {c : Code} {QQ : State → Prop}
variable {own : String} {cc : ByteArray} {nL nb : Nat} {pcs : Nat → Nat} {k : aK} {w : aW} {uc us i : Nat} {lo : List (Option Value)} {st : List Value} {H : Heap} {locs : List Loc} {ls : Array Slot} {J : Instr} {n : Nat} {I : aInfo}
theorem WS_good {w : Cond} (h : w ∈ WS) : goodWord w = true := (List.mem_filter.mp h).2
theorem ws_pay {y9 : Cond} (hts : ∀ w ∈ WS, w.before args s = true) (hy : y9 ∈ WS) : ∀ w ∈ y9 :: WS, ∀ (a' : Array Value) (U : State), s.WarmedH U.vm → w.before a' U = true := by
  intro w hw a' U hW
  have hw' : w ∈ WS := by
    rcases List.mem_cons.mp hw with rfl | h
    · exact hy
    · exact h
  exact word_at hW (good_of_word (WS_good hw')) (hts w hw')
/-- what the check of a callee says -/
theorem chY_ok {mid : Nat} (h : chZ mid = true) : Cond.initialized (yOf mid).cls ∈ WS ∧ codeW mid ∈ WS ∧ ((yOf mid).cls ≠ "java/lang/invoke/MethodHandle" ∧ (yOf mid).cls ≠ "java/lang/invoke/VarHandle") ∧ (plainFor (yOf mid) = true ∧ (exwOf mid = [] ∨ plainName (yOf mid).cls = true)) ∧ mlOf mid ≤ 40 ∧
    (kindOf mid = 0 → Cond.static (yOf mid) ∈ WS) ∧ (kindOf mid = 1 → exwOf mid = [] ∧ Cond.instanceMethod (yOf mid) ∈ WS ∧ Cond.selects (yOf mid).cls (yOf mid) (yOf mid) ∈ WS) ∧ (kindOf mid = 2 → exwOf mid = [] ∧ Cond.instanceMethod (yOf mid) ∈ WS ∧ (yOf mid).name = "<init>" ∧ retOf mid = none) := by
  unfold chZ at h
  simp only [Bool.and_eq_true] at h
  obtain ⟨⟨⟨⟨⟨⟨⟨h1, h2⟩, h3⟩, h4⟩, h5⟩, h5b⟩, h6⟩, h7⟩ := h
  have h5c : exwOf mid = [] ∨ plainName (yOf mid).cls = true := by
    rcases Bool.or_eq_true_iff.mp h5b with h | h
    · exact Or.inl (List.isEmpty_iff.mp h)
    · exact Or.inr h
  refine ⟨atT_ok h1, atT_ok h2, ⟨of_decide_eq_true h3, of_decide_eq_true h4⟩, ⟨h5, h5c⟩, of_decide_eq_true h7, fun hk => ?_, fun hk => ?_, fun hk => ?_⟩
  · rw [hk] at h6
    exact atT_ok h6
  · rw [hk] at h6
    simp only [Bool.and_eq_true, List.isEmpty_iff] at h6
    exact ⟨h6.1.1, atT_ok h6.1.2, atT_ok h6.2⟩
  · rw [hk] at h6
    simp only [Bool.and_eq_true, List.isEmpty_iff, decide_eq_true_eq] at h6
    exact ⟨h6.1.1.1, atT_ok h6.1.1.2, h6.1.2, h6.2⟩
theorem codeW_nil {mid : Nat} (h : exwOf mid = []) : codeW mid = .code (yOf mid) (bytOf mid) (mlOf mid) (retOf mid) := by
  unfold codeW
  rw [h]
  rfl
theorem codeW_cons {mid : Nat} (h : exwOf mid ≠ []) : codeW mid = .codeWith (yOf mid) (bytOf mid) (mlOf mid) (retOf mid) (exwOf mid) := by
  unfold codeW
  rw [if_neg]
  intro h2
  exact h (List.isEmpty_iff.mp h2)
theorem map_cat9 (ad : Nat → Nat) (l : List Value) : (l.map (tV ad)).map (fun v => v.category) = l.map (fun v => v.category) := by
  rw [List.map_map]
  apply List.map_congr_left
  intro v _
  exact tV_cat _ v
theorem so_callrunW {d mid na : Nat} {l9 : List Nat} {Qr' : Option Value → aW → Prop} {Qx' : String → aW → Prop} (hR : 8 + (d + 1) ≤ R.frames ∧ 200 + 60 * (d + 1) ≤ R.locals ∧ R.cells = I.1 ∧ R.slots = I.2.1) (hY : chZ mid = true) (C : CTX π own cc nL nb p s m args c) (hd : decode cc (pcs i) = .ok (J, 3)) (hj : callJ own mid na l9 J)
    (hI : InvW π w s H locs) (hl : LH π ls nL lo) (h6 : H.size ≤ s.heap.size + uc) (hna : na ≤ st.length) (hst : stW (st.drop na) ≤ 12) (hmid : mid = 221 ∨ mid = 222) (hw : w.1 = N0 ∨ w.1 = nb + uc) (hrc : rcvA π.2.2.2.2 l9 w (st.take na).reverse) (hc1 : uc + (mbOf mid).1 ≤ I.1) (hc2 : us + (mbOf mid).2 ≤ I.2.1) (hM : MA l π d mid (st.take na).reverse w Qr' Qx') :
    ∃ a9, vx_Run p l e R s m args below meth c H locs uc us (mbOf mid).1 (mbOf mid).2 (F0 m (pcs i) ls (st.map (tV (Pad π)))) ((st.drop na).map (tV (Pad π))) (QcA π Qr' a9) (XcA π Qx') (PA π) := by
  have hpre := PcA_pre C hI hw h6 (st.take na).reverse
  obtain ⟨hx, hb, hml, hown, hts, hK, hF, hsz, hnb⟩ := C
  obtain ⟨hP, hD, hS, hN⟩ := id hI
  obtain ⟨y1, y2, y3, y4, y5, y6, y7, y8⟩ := chY_ok hY
  have hpay := ws_pay hts y2
  have hcw : codeW mid ∈ codeW mid :: WS := List.mem_cons_self
  have hcat : 2 * (F0 m (pcs i) ls (st.map (tV (Pad π)))).monitorRoom + (((st.drop na).map (tV (Pad π))).map fun v => v.category).sum ≤ 12 := by
    rw [map_cat9]
    show 2 * 0 + _ ≤ 12
    have : ((st.drop na).map fun v => v.category).sum ≤ 12 := hst
    omega
  obtain ⟨w1, w2, w3⟩ := so_wideK hmid
  have hf : uc + (mbOf mid).1 ≤ R.cells ∧ us + (mbOf mid).2 ≤ R.slots := by rw [hR.2.2.1, hR.2.2.2]; exact ⟨hc1, hc2⟩
  have hfr : (rmD d (mbOf mid).1 (mbOf mid).2).frames + 1 ≤ R.frames := by have := hR.1; show 8 + d + 1 ≤ _; omega
  have hlo : 8 + (mlOf mid + 11) + (rmD d (mbOf mid).1 (mbOf mid).2).locals ≤ R.locals := by have := hR.2.1; show 8 + (mlOf mid + 11) + (200 + 60 * d) ≤ _; omega
  have hlo12 : 12 + (mlOf mid + 11) + (rmD d (mbOf mid).1 (mbOf mid).2).locals ≤ R.locals := by have := hR.2.1; show 12 + (mlOf mid + 11) + (200 + 60 * d) ≤ _; omega
  have hstk : st.map (tV (Pad π)) = ((st.take na).reverse.map (tV (Pad π))).reverse ++ (st.drop na).map (tV (Pad π)) := by
    rw [← List.map_reverse, List.reverse_reverse, ← List.map_append, List.take_append_drop]
  have hlen : ((st.take na).reverse).length = na := by rw [List.length_reverse, List.length_take]; omega
  have S9 : CallFix p m c cc nL s args WS own := ⟨hx, hb, hml, hown, hts⟩
  obtain ⟨ix, hlk, hcase⟩ := hj
  rcases hcase with ⟨hk0, hl9, rfl, hn9⟩ | ⟨hk0, -⟩ | ⟨hk0, -⟩
  · have hstat := hts _ (y6 hk0)
    have hn' : ∀ sig, parseMethodDescriptor (yOf mid).desc = some sig → na = sig.parameters.length := by
      intro sig hsig
      rw [hsig] at hn9
      exact (Option.some.inj hn9).symm
    refine ⟨(((st.take na).reverse).map (tV (Pad π))).toArray, ?_⟩
    have hcode : Cond.code (yOf mid) (bytOf mid) (mlOf mid) (retOf mid) ∈ codeW mid :: WS := by rw [codeW_nil w2]; exact List.mem_cons_self
    have hcb : (Cond.code (yOf mid) (bytOf mid) (mlOf mid) (retOf mid)).before args s = true := by rw [← codeW_nil w2]; exact hts _ y2
    rcases hlk with hlk | ⟨host, hlk⟩
    · exact so_runSW (n := na) S9 hM hlo12 ⟨⟨rfl, rfl, hfr, hlo, hpay, hcode, hcb, hts _ y1, y3, hn', hts _ hlk⟩, hstat⟩ ⟨PcA_blind, hpre⟩ rfl (by rw [List.length_map]; exact hlen) hl.1 hstk hcat hd hf
    · exfalso
      have h1 := List.all_eq_true.mp so_wide9 _ hlk
      rcases hmid with rfl | rfl <;> simp at h1
  · rw [w1] at hk0; cases hk0
  · rw [w1] at hk0; cases hk0
theorem nest_in : nestTab.all (fun q => decide (Cond.methodLinkNest q.1 q.2.1 q.2.2.1 q.2.2.2 ∈ lw_tbl)) = true := by decide +kernel
theorem nest_no9 : nestTab.all (fun q => (List.range 345).all (fun i => !(decide (yOf i = q.2.2.1)) || (exwOf i).isEmpty)) = true := by decide +kernel
theorem nest_no (own : String) (ix mid : Nat) (host : String) (h : (own, ix, yOf mid, host) ∈ nestTab) : exwOf mid = [] := by
  have h1 := List.all_eq_true.mp nest_no9 _ h
  by_cases hm : mid < 345
  · have h2 := List.all_eq_true.mp h1 mid (List.mem_range.mpr hm)
    simp only [Bool.or_eq_true, Bool.not_eq_true', decide_eq_false_iff_not, not_true_eq_false, false_or, List.isEmpty_iff] at h2
    exact h2
  · have h3 : exwL.length = 345 := by decide +kernel
    unfold exwOf
    rw [List.getD_eq_getElem?_getD, List.getElem?_eq_none (by omega)]
    rfl
/-- a call: the contract that its callee has is met by the machine -/
theorem so_callrun {d mid na : Nat} {l9 : List Nat} {Qr' : Option Value → aW → Prop} {Qx' : String → aW → Prop} (hR : 8 + (d + 1) ≤ R.frames ∧ 200 + 60 * (d + 1) ≤ R.locals ∧ R.cells = I.1 ∧ R.slots = I.2.1) (hY : chZ mid = true) (C : CTX π own cc nL nb p s m args c) (hd : decode cc (pcs i) = .ok (J, 3)) (hj : callJ own mid na l9 J)
    (hI : InvW π w s H locs) (hl : LH π ls nL lo) (h6 : H.size ≤ s.heap.size + uc) (hna : na ≤ st.length) (hst : stW (st.drop na) ≤ 8 ∨ (stW (st.drop na) ≤ 12 ∧ (mid = 221 ∨ mid = 222))) (hw : w.1 = N0 ∨ w.1 = nb + uc) (hrc : rcvA π.2.2.2.2 l9 w (st.take na).reverse) (hc1 : uc + (mbOf mid).1 ≤ I.1) (hc2 : us + (mbOf mid).2 ≤ I.2.1) (hM : MA l π d mid (st.take na).reverse w Qr' Qx') :
    ∃ a9, vx_Run p l e R s m args below meth c H locs uc us (mbOf mid).1 (mbOf mid).2 (F0 m (pcs i) ls (st.map (tV (Pad π)))) ((st.drop na).map (tV (Pad π))) (QcA π Qr' a9) (XcA π Qx') (PA π) := by
  rcases hst with hst | ⟨hst, hmid⟩
  case inr => exact so_callrunW hR hY C hd hj hI hl h6 hna hst hmid hw hrc hc1 hc2 hM
  have hpre := PcA_pre C hI hw h6 (st.take na).reverse
  obtain ⟨hx, hb, hml, hown, hts, hK, hF, hsz, hnb⟩ := C
  obtain ⟨hP, hD, hS, hN⟩ := id hI
  obtain ⟨y1, y2, y3, y4, y5, y6, y7, y8⟩ := chY_ok hY
  have hpay := ws_pay hts y2
  have hcw : codeW mid ∈ codeW mid :: WS := List.mem_cons_self
  have hcat : 2 * (F0 m (pcs i) ls (st.map (tV (Pad π)))).monitorRoom + (((st.drop na).map (tV (Pad π))).map fun v => v.category).sum ≤ 8 := by
    rw [map_cat9]
    show 2 * 0 + _ ≤ 8
    have : ((st.drop na).map fun v => v.category).sum ≤ 8 := hst
    omega
  have hf : uc + (mbOf mid).1 ≤ R.cells ∧ us + (mbOf mid).2 ≤ R.slots := by rw [hR.2.2.1, hR.2.2.2]; exact ⟨hc1, hc2⟩
  have hfr : (rmD d (mbOf mid).1 (mbOf mid).2).frames + 1 ≤ R.frames := by have := hR.1; show 8 + d + 1 ≤ _; omega
  have hlo : 8 + (mlOf mid + 11) + (rmD d (mbOf mid).1 (mbOf mid).2).locals ≤ R.locals := by have := hR.2.1; show 8 + (mlOf mid + 11) + (200 + 60 * d) ≤ _; omega
  have hstk : st.map (tV (Pad π)) = ((st.take na).reverse.map (tV (Pad π))).reverse ++ (st.drop na).map (tV (Pad π)) := by
    rw [← List.map_reverse, List.reverse_reverse, ← List.map_append, List.take_append_drop]
  have hlen : ((st.take na).reverse).length = na := by rw [List.length_reverse, List.length_take]; omega
  have hnp : ∀ (f : Nat → Nat) (x : Nat), (parseMethodDescriptor (yOf mid).desc).map (fun d => f d.parameters.length) = some x → ∀ sig, parseMethodDescriptor (yOf mid).desc = some sig → x = f sig.parameters.length := by
    intro f x h sig hsig
    rw [hsig] at h
    exact (Option.some.inj h).symm
  have S9 : CallFix p m c cc nL s args WS own := ⟨hx, hb, hml, hown, hts⟩
  have hns : nestTab.all (fun q => decide (Cond.methodLinkNest q.1 q.2.1 q.2.2.1 q.2.2.2 ∈ lw_tbl)) = true → ∀ ix host, (own, ix, yOf mid, host) ∈ nestTab → (Cond.methodLinkNest own ix (yOf mid) host).before args s = true := by
    intro h ix host hm
    have h1 := List.all_eq_true.mp h _ hm
    exact va_Nw.use rfl (hF.2.2.2.2.2.1 _ (of_decide_eq_true h1) rfl)
  have hns' := hns nest_in
  obtain ⟨ix, hlk, hcase⟩ := hj
  rcases hcase with ⟨hk0, hl9, rfl, hn9⟩ | ⟨hk0, hlk1, rfl, hn9, hrv⟩ | ⟨hk0, hl9, rfl, hn9⟩
  · have hstat := hts _ (y6 hk0)
    have hn' := hnp (fun x => x) na hn9
    refine ⟨(((st.take na).reverse).map (tV (Pad π))).toArray, ?_⟩
    by_cases hex : exwOf mid = []
    · have hcode : Cond.code (yOf mid) (bytOf mid) (mlOf mid) (retOf mid) ∈ codeW mid :: WS := by rw [codeW_nil hex]; exact List.mem_cons_self
      have hcb : (Cond.code (yOf mid) (bytOf mid) (mlOf mid) (retOf mid)).before args s = true := by rw [← codeW_nil hex]; exact hts _ y2
      rcases hlk with hlk | ⟨host, hlk⟩
      · exact vx_runS (n := na) S9 hM ⟨⟨rfl, rfl, hfr, hlo, hpay, hcode, hcb, hts _ y1, y3, hn', hts _ hlk⟩, hstat⟩ ⟨PcA_blind, hpre⟩ rfl (by rw [List.length_map]; exact hlen) hl.1 hstk hcat hd hf
      · exact vx_runSN (n := na) S9 hM ⟨⟨⟨rfl, rfl, hfr, hlo, hpay, hcode⟩, hcb, hts _ y1, y3, hn', hns' ix host hlk⟩, hstat, trivial⟩ ⟨PcA_blind, hpre⟩ rfl (by rw [List.length_map]; exact hlen) hl.1 hstk hcat hd hf
    · have hcode : Cond.codeWith (yOf mid) (bytOf mid) (mlOf mid) (retOf mid) (exwOf mid) ∈ codeW mid :: WS := by rw [codeW_cons hex]; exact List.mem_cons_self
      have hcb : (Cond.codeWith (yOf mid) (bytOf mid) (mlOf mid) (retOf mid) (exwOf mid)).before args s = true := by rw [← codeW_cons hex]; exact hts _ y2
      rcases hlk with hlk | ⟨host, hlk⟩
      · exact vx_runSX (n := na) S9 hM ⟨⟨rfl, rfl, hfr, hlo, hpay, hcode⟩, hcb, hts _ y1, y3, hn', hts _ hlk, hstat⟩ ⟨PcA_blind, hpre⟩ rfl (by rw [List.length_map]; exact hlen) hl.1 hstk hcat hd hf
      · exact absurd (nest_no _ _ _ _ hlk) hex
  · obtain ⟨y71, y72, y73⟩ := y7 hk0
    have hcode : Cond.code (yOf mid) (bytOf mid) (mlOf mid) (retOf mid) ∈ codeW mid :: WS := by rw [codeW_nil y71]; exact List.mem_cons_self
    have hcb : (Cond.code (yOf mid) (bytOf mid) (mlOf mid) (retOf mid)).before args s = true := by rw [← codeW_nil y71]; exact hts _ y2
    have hn' := hnp (fun x => x + 1) na hn9
    cases has : (st.take na).reverse with
    | nil =>
      rw [has] at hrc
      rcases hrv with ⟨rfl, -⟩ | ⟨ci, rfl, -, -, -⟩ <;> exact hrc.elim
    | cons v as =>
      rw [has] at hrc hpre hM hstk hlen
      cases v with
      | ref q =>
        have hcell : ∃ cellB : Cell, H[Pad π q]? = some cellB ∧ cellB.vm.isStatics = false ∧ s.vm.findClass (yOf mid).cls = some cellB.cls := by
          rcases hrv with ⟨rfl, hC⟩ | ⟨ci, rfl, hne, hne2, hC⟩
          · obtain ⟨r1, r2, r3⟩ := hrc
            obtain ⟨a1, -, -⟩ := hF.2.2.1 _ (Nat.sub_lt_left_of_lt_add r1 r2) r3
            obtain ⟨cell, c1, c2, c3, -⟩ := a1.kept hS.2.1
            refine ⟨cell, ?_, c2, by rw [hC]; exact c3⟩
            rw [Pad_fx r1]
            exact c1
          · have hrc' : ∃ fs, aAt w q (.inr (ci, fs)) := by
              unfold rcvA at hrc
              dsimp only at hrc
              rw [if_neg hne, if_neg hne2] at hrc
              exact hrc
            obtain ⟨fs, hfs⟩ := hrc'
            cases hcl : vwCl[ci]? with
            | none => rw [hcl] at hC; cases hC
            | some r9 =>
              rw [hcl] at hC
              have h9 := va_recv hK hP hcl (wl_get hfs)
              rw [show r9.1 = (yOf mid).cls from Option.some.inj hC] at h9
              exact h9
        refine ⟨(Value.ref (Pad π q) :: as.map (tV (Pad π))).toArray, ?_⟩
        have hla : (as.map (tV (Pad π))).length + 1 = na := by rw [List.length_map]; simpa using hlen
        exact vx_runV (n := na - 1) (C := (yOf mid).cls) S9 hM ⟨⟨rfl, rfl, hfr, hlo, hpay, hcode, hcb, hts _ y1, y3, (fun sig hs => by have := hn' sig hs; omega), hts _ hlk1⟩, hts _ y72, hts _ y73⟩ ⟨PcA_blind, hcell, hpre⟩ rfl (by omega) hl.1 (by show st.map (tV (Pad π)) = _; rw [hstk]; simp [tV]) hcat hd hf
      | _ => rcases hrv with ⟨rfl, -⟩ | ⟨ci, rfl, -, -, -⟩ <;> exact hrc.elim
  · obtain ⟨y81, y82, y83, y84⟩ := y8 hk0
    have hcode : Cond.code (yOf mid) (bytOf mid) (mlOf mid) none ∈ codeW mid :: WS := by rw [← y84, codeW_nil y81]; exact List.mem_cons_self
    have hcb : (Cond.code (yOf mid) (bytOf mid) (mlOf mid) none).before args s = true := by rw [← y84, ← codeW_nil y81]; exact hts _ y2
    have hn' := hnp (fun x => x + 1) na hn9
    cases has : (st.take na).reverse with
    | nil =>
      rw [has] at hlen
      have := hn'
      cases hp9 : parseMethodDescriptor (yOf mid).desc with
      | none => rw [hp9] at hn9; cases hn9
      | some sig =>
        have := hn' sig hp9
        simp at hlen
        omega
    | cons v as =>
      rw [has] at hrc hpre hM hstk hlen
      subst hl9
      cases v with
      | ref q =>
        refine ⟨(Value.ref (Pad π q) :: as.map (tV (Pad π))).toArray, ?_⟩
        have hla : (as.map (tV (Pad π))).length + 1 = na := by rw [List.length_map]; simpa using hlen
        have hn2 : ∀ sig, parseMethodDescriptor (yOf mid).desc = some sig → na - 1 = sig.parameters.length := fun sig hs => by have := hn' sig hs; omega
        have hstk2 : st.map (tV (Pad π)) = (as.map (tV (Pad π))).reverse ++ Value.ref (Pad π q) :: (st.drop na).map (tV (Pad π)) := by rw [hstk]; simp [tV]
        rcases hlk with hlk | ⟨host, hlk⟩
        · exact vx_runI (n := na - 1) S9 hM ⟨⟨rfl, rfl, hfr, hlo, hpay, hcode, hcb, hts _ y1, y3, hn2, hts _ hlk⟩, y83, hts _ y82⟩ ⟨PcA_blind, hpre⟩ rfl (by omega) hl.1 hstk2 hcat hd hf
        · exact vx_runIN (n := na - 1) S9 hM ⟨⟨⟨rfl, rfl, hfr, hlo, hpay, hcode⟩, hcb, hts _ y1, y3, hn2, hns' ix host hlk⟩, y83, hts _ y82⟩ ⟨PcA_blind, hpre⟩ rfl (by omega) hl.1 hstk2 hcat hd hf
      | _ => exact hrc.elim
end SINV
