/-! soundness of the instructions: new things, texts, copies -/
section SOPS
variable {π : aP} {p : Program} {l : Launch} {e : Env} {R : Room} {s : State} {m : MethodId} {args : Array Value} {below : List Frame} {meth : Method} {c : Code} {QQ : State → Prop}
variable {own : String} {cc : ByteArray} {nL nb : Nat} {pcs : Nat → Nat} {k : aK} {w : aW} {uc us i : Nat} {lo : List (Option Value)} {st : List Value} {H : Heap} {locs : List Loc} {ls : Array Slot} {J : Instr} {n : Nat} {I : aInfo}
theorem W.size9 {cells slots : Nat} {g : JFrame} (k : H.size ≤ s.heap.size + cells → W p l e R s m args below meth c H locs cells slots QQ g) : W p l e R s m args below meth c H locs cells slots QQ g := by
  intro T hT X
  exact k (by rw [← hT]; exact X.heapSize) T hT X
/-- at a new thing its address is known -/
theorem InvW.size (hnb : nb < N0 → s.heap.size = π.2.2.1 + nb) (hI : InvW π w s H locs) (hsz : π.2.2.1 ≤ s.heap.size) (h1 : w.1 < N0) (h2 : w.1 = nb + uc) (h3 : H.size ≤ s.heap.size + uc) : H.size = Pad π w.1 ∧ PA π H.size := by
  have h4 := hI.lo hsz
  have h5 := hnb (by omega)
  have h6 : Pad π w.1 = π.2.2.1 + w.1 := Pad_lo (by have := N0_FB; omega)
  refine ⟨by omega, ?_⟩
  show π.2.2.1 ≤ H.size
  omega
theorem PA_up (hsz : π.2.2.1 ≤ s.heap.size) : ∀ q, s.heap.size ≤ q → PA π q := fun q hq => Nat.le_trans hsz hq
theorem cls_new9 : (vwCl.all fun q => decide (Cond.instantiable q.1 q.2.2 ∈ lw_tbl) && goodWord (Cond.instantiable q.1 q.2.2) && decide (Cond.initialized q.1 ∈ lw_tbl)) = true := by decide +kernel
theorem cls_new {ci : Nat} {C : String} {T : u_T} {N : Nat} (h : vwCl[ci]? = some (C, T, N)) : Cond.instantiable C N ∈ WS ∧ Cond.initialized C ∈ WS := by
  have h1 := List.all_eq_true.mp cls_new9 _ (List.mem_of_getElem? h)
  simp only [Bool.and_eq_true, decide_eq_true_eq] at h1
  exact ⟨List.mem_filter.mpr ⟨h1.1.1, h1.1.2⟩, List.mem_filter.mpr ⟨h1.2, rfl⟩⟩
theorem nfA_of {ci : Nat} {C : String} {T : u_T} {N : Nat} (h : vwCl[ci]? = some (C, T, N)) : nfA ci = N := by simp [nfA, h]
theorem tV_def {ad : Nat → Nat} {ty : FieldType} : tV ad (defaultValue ty) = defaultValue ty := by cases ty <;> rfl
theorem dfA_tV {ad : Nat → Nat} {ci : Nat} : (dfA ci).map (tV ad) = dfA ci := by
  unfold dfA
  rw [List.map_map]
  apply List.map_congr_left
  intro b _
  exact tV_def
theorem so_new {a : Nat} (hR : R.cells = I.1 ∧ R.slots = I.2.1) (C : CTX π own cc nL nb p s m args c) (hk : KS π p l e R s m args below meth c QQ nL pcs k) (hd : decode cc (pcs i) = .ok (J, n)) (hj : pcs (i + 1) = pcs i + n ∧ ∃ ix C T N, J = .new ix ∧ n = 3 ∧ vwCl[a]? = some (C, T, N) ∧ Cond.classLink own ix C ∈ WS) (ho : opNew I k nb a (nfA a) (dfA a) w uc us i lo st) (hI : InvW π w s H locs) (hl : LH π ls nL lo) :
    W p l e R s m args below meth c H locs uc us QQ (F0 m (pcs i) ls (st.map (tV (Pad π)))) := by
  obtain ⟨hx, hb, hml, hown, hts, hK, hF, hsz, hnb⟩ := C
  obtain ⟨hn, ix, CC, T, N, rfl, rfl, hc, hlk⟩ := hj
  obtain ⟨h1, h2, h3, h4, h5⟩ := ho
  refine W.size9 fun h6 => ?_
  obtain ⟨h7, h8⟩ := hI.size hnb hsz h1 h2 h6
  obtain ⟨hP, hD, hS, hN⟩ := id hI
  obtain ⟨hi1, hi2⟩ := cls_new hc
  have hKn := hK.1 a _ hc
  have hN9 := nfA_of hc
  rw [hN9] at h4 h5
  refine W.newcK hx hb hown (hts _ hlk) (hts _ hi1) (hts _ hi2) rfl hd (by rw [hR.1]; exact h3) (by rw [hR.2]; exact h4) hKn.2.1 rfl fun H1 kC hkC e1 z1 o1 => ?_
  have hk9 : ∀ (k : Nat) (x : Nat × va_E), (wl π w)[k]? = some x → H1[x.1]? = H[x.1]? := fun k x hx => o1 x.1 ((hP k x hx).lt)
  have hP1 : va_P π.1 vwCl (wl π w ++ [(H.size, .inr (a, (dfA a).map (tV (Pad π))))]) H1 := (hP.kept hk9).app (fun k x hx => by
    have hz : k < 1 := (List.getElem?_eq_some_iff.mp hx).1
    rw [show k = 0 by omega] at hx
    cases hx
    refine ⟨_, hc, (u_born (ftyA a) hts (cls_in hc) hKn hkC e1 (cls_ty hc)).to (fun j hj => ?_)⟩
    rw [dfA_tV]
    simp [vp_V, dfA, hN9, List.getElem?_range hj])
  have hD1 : va_D (PA π) (wl π w ++ [(H.size, .inr (a, (dfA a).map (tV (Pad π))))]) := hD.push hP rfl h8
  have hS1 : va_S (PA π) s.heap H1 locs := ⟨Nat.le_trans hS.1 (by omega), fun x h1 h2 => (o1 x (Nat.lt_of_lt_of_le h1 hS.1)).trans (hS.2.1 x h1 h2), hS.2.2⟩
  rw [h7, show (Pad π w.1, (Sum.inr (a, (dfA a).map (tV (Pad π))) : va_E)) = (Pad π w.1, tE (Pad π) π.2.1 (.inr (a, dfA a))) from rfl, wl_new] at hP1 hD1
  have kk := hk.at h5 hn (⟨hP1, hD1, hS1, by show w.1 + 1 ≤ N0; omega⟩ : InvW π _ s H1 locs) hl
  rw [show (H.size : Nat) = Pad π w.1 from h7]
  exact kk
theorem so_newa {a : Nat} (hR : R.cells = I.1 ∧ R.slots = I.2.1) (C : CTX π own cc nL nb p s m args c) (hk : KS π p l e R s m args below meth c QQ nL pcs k) (hd : decode cc (pcs i) = .ok (J, n)) (hj : pcs (i + 1) = pcs i + n ∧ ((a < 4 ∧ ∃ at9, J = .newarray at9 ∧ n = 2 ∧ newarray.typeOf at9 = tyT a ∧ Cond.arrayClass (tyT a) ∈ WS) ∨ (4 ≤ a ∧ a < nTy ∧ ∃ ix C, J = .anewarray ix ∧ n = 3 ∧ tyT a = .object C ∧ Cond.classLink own ix C ∈ WS))) (ho : opNewA I k nb a w uc us i lo st) (hI : InvW π w s H locs) (hl : LH π ls nL lo) :
    W p l e R s m args below meth c H locs uc us QQ (F0 m (pcs i) ls (st.map (tV (Pad π)))) := by
  obtain ⟨hx, hb, hml, hown, hts, hK, hF, hsz, hnb⟩ := C
  match st, ho with
  | .int z :: r, ho =>
    obtain ⟨g1, g2, h1, h2, h3, h4, h5⟩ := ho
    refine W.size9 fun h6 => ?_
    obtain ⟨h7, h8⟩ := hI.size hnb hsz h1 h2 h6
    obtain ⟨hP, hD, hS, hN⟩ := id hI
    obtain ⟨hn, hj | hj⟩ := hj
    · obtain ⟨ha, at9, rfl, rfl, hty, hw⟩ := hj
      have harr : (Cond.arrayClass (newarray.typeOf at9)).before args s = true := by rw [hty]; exact hts _ hw
      have hcb : z.toNatClampNeg * componentBytes (newarray.typeOf at9) ≤ 536870912 := by
        have : componentBytes (newarray.typeOf at9) ≤ 8 := by cases at9 <;> decide
        calc z.toNatClampNeg * componentBytes (newarray.typeOf at9) ≤ 1000000 * 8 := Nat.mul_le_mul g2 this
          _ ≤ 536870912 := by decide
      refine va_newaK hx hb harr rfl hd rfl g1 rfl hcb (by rw [hR.1]; exact h3) (by rw [hR.2]; exact h4) rfl fun H1 cA e1 z1 o1 hAr hNm => ?_
      have hk9 : ∀ (k : Nat) (x : Nat × va_E), (wl π w)[k]? = some x → H1[x.1]? = H[x.1]? := fun k x hx => o1 x.1 ((hP k x hx).lt)
      have hS1 : va_S (PA π) s.heap H1 locs := ⟨Nat.le_trans hS.1 (by omega), fun x h1 h2 => (o1 x (Nat.lt_of_lt_of_le h1 hS.1)).trans (hS.2.1 x h1 h2), hS.2.2⟩
      have hcA : cA = π.2.1 a := by
        have h9 := (hK.2 a _ (tys_get (show a < nTy from Nat.lt_trans ha (by decide)))).2
        rw [hty] at hNm
        rcases (show a = 0 ∨ a = 1 ∨ a = 2 ∨ a = 3 by omega) with rfl | rfl | rfl | rfl <;> exact Option.some.inj (hNm.symm.trans h9)
      rw [hcA] at e1
      have hfin : ∀ e9 : va_E, tE (Pad π) π.2.1 e9 = e9 → True := fun _ _ => trivial
      have go : ∀ a0 : va_E, va_at π.1 vwCl (H.size, tE (Pad π) π.2.1 a0) H1 → k (aNew w a0) (uc + 1) (us + z.toNatClampNeg) (i + 1) lo (.ref w.1 :: r) → W p l e R s m args below meth c H1 locs (uc + 1) (us + z.toNatClampNeg) QQ (F0 m (pcs i + 2) ls (.ref H.size :: r.map (tV (Pad π)))) := by
        intro a0 hat hk0
        have hP1 : va_P π.1 vwCl (wl π w ++ [(H.size, tE (Pad π) π.2.1 a0)]) H1 := (hP.kept hk9).app (fun k x hx => by
          have hz : k < 1 := (List.getElem?_eq_some_iff.mp hx).1
          rw [show k = 0 by omega] at hx
          cases hx
          exact hat)
        have hD1 : va_D (PA π) (wl π w ++ [(H.size, tE (Pad π) π.2.1 a0)]) := hD.push hP rfl h8
        rw [h7, wl_new] at hP1 hD1
        have kk := hk.at hk0 hn (⟨hP1, hD1, hS1, by show w.1 + 1 ≤ N0; omega⟩ : InvW π _ s H1 locs) hl
        rw [show (H.size : Nat) = Pad π w.1 from h7]
        exact kk
      rw [hty] at e1
      rcases (show a = 0 ∨ a = 1 ∨ a = 2 ∨ a = 3 by omega) with rfl | rfl | rfl | rfl
      · exact go (.inl (0, z.toNatClampNeg, .inl (fun _ => 0))) e1 h5
      · exact go (.inl (1, z.toNatClampNeg, .inr (.inl (fun _ => 0)))) e1 h5
      · exact go (.inl (2, z.toNatClampNeg, .inl (fun _ => 0))) e1 h5
      · exact go (.inl (3, z.toNatClampNeg, .inl (fun _ => 0))) e1 h5
    · obtain ⟨ha, ha8, ix, CC, rfl, rfl, hty, hw⟩ := hj
      refine W.anew hx hb hown (hts _ hw) (va_AO.use (hF.2.2.2.2.2.2.2 a CC ha ha8 hty)) rfl hd rfl g1 (Nat.le_trans (Nat.mul_le_mul g2 (Nat.le_refl 4)) (by decide)) (by rw [hR.1]; exact h3) (by rw [hR.2]; exact h4) fun cA kA comp f1 f2 f3 f4 => ?_
      generalize hH1 : H.push ({ cls := cA, slots := Array.replicate z.toNatClampNeg .null, vm := .none } : Cell) = H1
      have z1 : H1.size = H.size + 1 := by rw [← hH1, Array.size_push]
      have e1 : H1[H.size]? = some (arrV cA z.toNatClampNeg (fun _ => .null)) := by rw [← hH1, Array.getElem?_push_size, ← arrV_new]
      have o1 : ∀ q : Nat, q < H.size → H1[q]? = H[q]? := fun q hq => by rw [← hH1, Array.getElem?_push, if_neg (Nat.ne_of_lt hq)]
      have hk9 : ∀ (k : Nat) (x : Nat × va_E), (wl π w)[k]? = some x → H1[x.1]? = H[x.1]? := fun k x hx => o1 x.1 ((hP k x hx).lt)
      have hS1 : va_S (PA π) s.heap H1 locs := ⟨Nat.le_trans hS.1 (by omega), fun x h1 h2 => (o1 x (Nat.lt_of_lt_of_le h1 hS.1)).trans (hS.2.1 x h1 h2), hS.2.2⟩
      have hcA : cA = π.2.1 a := by
        have h9 := (hK.2 a _ (tys_get ha8)).2
        dsimp only at h9
        rw [hty] at h9
        obtain ⟨-, -, -, -, -, h10⟩ := h9
        exact Option.some.inj (f1.symm.trans h10)
      rw [hcA] at e1
      have hP1 : va_P π.1 vwCl (wl π w ++ [(H.size, tE (Pad π) π.2.1 (.inl (a, z.toNatClampNeg, .inr (.inr (.inr (.inr (fun _ => none)))))))]) H1 := (hP.kept hk9).app (fun k x hx => by
        have hz : k < 1 := (List.getElem?_eq_some_iff.mp hx).1
        rw [show k = 0 by omega] at hx
        cases hx
        exact e1)
      have hD1 : va_D (PA π) (wl π w ++ [(H.size, tE (Pad π) π.2.1 (.inl (a, z.toNatClampNeg, .inr (.inr (.inr (.inr (fun _ => none)))))))]) := hD.push hP rfl h8
      rw [h7, wl_new] at hP1 hD1
      have h5' : k (aNew w (.inl (a, z.toNatClampNeg, .inr (.inr (.inr (.inr (fun _ => none))))))) (uc + 1) (us + z.toNatClampNeg) (i + 1) lo (.ref w.1 :: r) := by
        have h3' : nTy = 8 := rfl
        rcases (show a = 4 ∨ a = 5 ∨ a = 6 ∨ a = 7 by omega) with rfl | rfl | rfl | rfl <;> exact h5
      have kk := hk.at h5' hn (⟨hP1, hD1, hS1, by show w.1 + 1 ≤ N0; omega⟩ : InvW π _ s H1 locs) hl
      show W p l e R s m args below meth c H1 locs (uc + 1) (us + z.toNatClampNeg) QQ (F0 m (pcs i + 3) ls (.ref H.size :: r.map (tV (Pad π))))
      rw [show (H.size : Nat) = Pad π w.1 from h7]
      exact kk
theorem cpy_9 : [Cond.native arraycopyName, Cond.static arraycopyName, Cond.initialized "java/lang/System", Cond.instanceMethod objectInit, Cond.code objectInit ⟨#[0xb1]⟩ 1 none].all (fun w => decide (w ∈ lw_tbl) && goodWord w) = true := by decide +kernel
theorem cpy_at {w : Cond} (i : Nat) (h : [Cond.native arraycopyName, Cond.static arraycopyName, Cond.initialized "java/lang/System", Cond.instanceMethod objectInit, Cond.code objectInit ⟨#[0xb1]⟩ 1 none][i]? = some w) : w ∈ WS := by
  have h1 := List.all_eq_true.mp cpy_9 _ (List.mem_of_getElem? h)
  simp only [Bool.and_eq_true, decide_eq_true_eq] at h1
  exact List.mem_filter.mpr h1
theorem cpy_n : Cond.native arraycopyName ∈ WS := cpy_at 0 rfl
theorem cpy_s : Cond.static arraycopyName ∈ WS := cpy_at 1 rfl
theorem cpy_i : Cond.initialized "java/lang/System" ∈ WS := cpy_at 2 rfl
theorem obj_i : Cond.instanceMethod objectInit ∈ WS := cpy_at 3 rfl
theorem obj_c : Cond.code objectInit ⟨#[0xb1]⟩ 1 none ∈ WS := cpy_at 4 rfl
theorem so_cpy (hR : 1 ≤ R.frames ∧ 100 ≤ R.locals) (C : CTX π own cc nL nb p s m args c) (hk : KS π p l e R s m args below meth c QQ nL pcs k) (hd : decode cc (pcs i) = .ok (J, n)) (hj : pcs (i + 1) = pcs i + n ∧ n = 3 ∧ ∃ ix, J = .invokestatic ix ∧ Cond.methodLink own ix arraycopyName ∈ WS) (ho : opCpy k w uc us i lo st) (hI : InvW π w s H locs) (hl : LH π ls nL lo) :
    W p l e R s m args below meth c H locs uc us QQ (F0 m (pcs i) ls (st.map (tV (Pad π)))) := by
  obtain ⟨hx, hb, hml, hown, hts, hK, hF, hsz, hnb⟩ := C
  obtain ⟨hn, rfl, ix, rfl, hlk⟩ := hj
  obtain ⟨hP, hD, hS, hN⟩ := id hI
  match st, ho with
  | .int z :: .int dp :: .ref q1 :: .int sp :: .ref q0 :: r, ho =>
    obtain ⟨n0, f, n1, f1, h0, h1, hst, g1, g2, g3, g4, g5, h4⟩ := ho
    refine va_copyi hx hb (by rw [hml, hl.1]) hown (hts _ hlk) (hts _ cpy_n) (hts _ cpy_s) (hts _ cpy_i) hK hP hD hS q0 q1 0 0 (wl_get h0) (wl_get h1) (tys_get (by decide)) (tys_get (by decide)) rfl g1 g2 g3 g4 g5 (fun _ _ => rfl) hR.1 ?_ hd (fun H1 locs1 hP1 hD1 hS1 => ?_)
    · have e1 : (r.map (tV (Pad π))).map (fun v => v.category) = r.map (fun v => v.category) := by
        rw [List.map_map]
        apply List.map_congr_left
        intro v _
        exact tV_cat _ v
      rw [e1]
      have e2 : nativeFrameWords "java/lang/System" "arraycopy" 5 ≤ 60 := by decide +kernel
      have e3 : (r.map fun v => v.category).sum ≤ 8 := hst
      omega
    · rw [show (Pad π q1, (Sum.inl (π.2.1 0, n1, .inl (va_cpy f f1 sp.toNatClampNeg dp.toNatClampNeg z.toNatClampNeg)) : va_E)) = (Pad π q1, tE (Pad π) π.2.1 (.inl (0, n1, .inl (va_cpy f f1 sp.toNatClampNeg dp.toNatClampNeg z.toNatClampNeg)))) from rfl, wl_up] at hP1 hD1
      exact hk.at h4 hn ⟨hP1, hD1, hS1, hN⟩ hl
theorem so_obj (hR : 1 ≤ R.frames ∧ 100 ≤ R.locals) (C : CTX π own cc nL nb p s m args c) (hk : KS π p l e R s m args below meth c QQ nL pcs k) (hd : decode cc (pcs i) = .ok (J, n)) (hj : pcs (i + 1) = pcs i + n ∧ n = 3 ∧ ∃ ix, J = .invokespecial ix ∧ Cond.methodLink own ix objectInit ∈ WS) (ho : opObj k w uc us i lo st) (hI : InvW π w s H locs) (hl : LH π ls nL lo) :
    W p l e R s m args below meth c H locs uc us QQ (F0 m (pcs i) ls (st.map (tV (Pad π)))) := by
  obtain ⟨hx, hb, hml, hown, hts, hK, hF, hsz, hnb⟩ := C
  obtain ⟨hn, rfl, ix, rfl, hlk⟩ := hj
  match st, ho with
  | .ref q :: r, ho =>
    refine W.objInit hx hb hown (hts _ hlk) (hts _ obj_i) (hts _ obj_c) rfl (by rw [hml]; exact hl.1) rfl hd hR.1 ?_ (hk.at ho.2 hn hI hl)
    have e1 : (r.map (tV (Pad π))).map (fun v => v.category) = r.map (fun v => v.category) := by
      rw [List.map_map]
      apply List.map_congr_left
      intro v _
      exact tV_cat _ v
    have e3 : (r.map fun v => v.category).sum ≤ 8 := ho.1
    show 2 * 0 + ((r.map (tV (Pad π))).map fun v => v.category).sum + 12 ≤ R.locals
    rw [e1]
    omega
theorem so_str {a : Nat} (C : CTX π own cc nL nb p s m args c) (hk : KS π p l e R s m args below meth c QQ nL pcs k) (hd : decode cc (pcs i) = .ok (J, n)) (hj : pcs (i + 1) = pcs i + n ∧ ∃ ix text, (own, ix, text, a) ∈ strTab ∧ a < 100 ∧ ((J = .ldc ix ∧ n = 2) ∨ (J = .ldc_w ix ∧ n = 3))) (ho : k w uc us (i + 1) lo (.ref (FB + a) :: st)) (hI : InvW π w s H locs) (hl : LH π ls nL lo) :
    W p l e R s m args below meth c H locs uc us QQ (F0 m (pcs i) ls (st.map (tV (Pad π)))) := by
  obtain ⟨hx, hb, hml, hown, hts, hK, hF, hsz, hnb⟩ := C
  obtain ⟨hn, ix, text, hm, ha, hj⟩ := hj
  obtain ⟨sa, h1, h2⟩ := hF.2.2.2.2.1 _ hm
  have h3 : sa = Pad π (FB + a) := by rw [Pad_hi]; exact h2 ha
  subst h3
  have kk := hk.at ho hn hI hl
  rcases hj with ⟨rfl, rfl⟩ | ⟨rfl, rfl⟩
  · exact va_ldcS hx hb hown h1 hd kk
  · intro T hT X
    obtain ⟨t, a1, b1⟩ := kk T hT X
    exact ⟨t, X.ldcStringW hx hown (text := text) (a := Pad π (FB + a)) h1.1 h1.2 (g := F0 m (pcs i) ls (st.map (tV (Pad π)))) rfl (by rw [hb]; exact hd) t a1, b1⟩
end SOPS

