/-! soundness of the instructions: rows, fixed things, new ones -/
section SOPS
variable {π : aP} {p : Program} {l : Launch} {e : Env} {R : Room} {s : State} {m : MethodId} {args : Array Value} {below : List Frame} {meth : Method} {c : Code} {QQ : State → Prop}
variable {own : String} {cc : ByteArray} {nL nb : Nat} {pcs : Nat → Nat} {k : aK} {w : aW} {uc us i : Nat} {lo : List (Option Value)} {st : List Value} {H : Heap} {locs : List Loc} {ls : Array Slot} {J : Instr} {n : Nat}

theorem Pad_fx {π : aP} {q : Nat} (h : FB ≤ q) : Pad π q = π.2.2.2.1 (q - FB) := by
  have h2 : ¬ q < FB := by omega
  simp [Pad, adr, h2]
theorem aUp_n {w : aW} {i : Nat} {e : va_E} : (aUp w i e).1 = w.1 := rfl

theorem so_len (C : CTX π own cc nL nb p s m args c) (hk : KS π p l e R s m args below meth c QQ nL pcs k) (hd : decode cc (pcs i) = .ok (J, n)) (hj : pcs (i + 1) = pcs i + n ∧ J = arJ 22 ∧ n = 1) (ho : opLen π.2.2.2.2 k w uc us i lo st) (hI : InvW π w s H locs) (hl : LH π ls nL lo) :
    W p l e R s m args below meth c H locs uc us QQ (F0 m (pcs i) ls (st.map (tV (Pad π)))) := by
  obtain ⟨hx, hb, hml, hown, hts, hK, hF, hsz, hnb⟩ := C
  obtain ⟨hn, rfl, rfl⟩ := hj
  obtain ⟨hP, hD, hS, hN⟩ := id hI
  match st, ho with
  | .ref q :: r, ho =>
    obtain ⟨z, h1, h2⟩ := ho
    have kk := hk.at h2 hn hI hl
    rcases h1 with ⟨t, a, h1, ht⟩ | ⟨t, f, h3, h4⟩
    · rcases a with f | f | f | f | f <;> exact va_alen hx hb hK hP q t (wl_get h1) (tys_get ht) rfl hd kk
    · obtain ⟨h5, h6⟩ := hF.2.1 _ _ _ _ h4
      refine va_tlen hx hb (t := Pad π q) (N := z) (ty := tyT t) (f := fun j => .int (f j)) (by rw [Pad_fx h3]; exact h6) hS rfl hd kk
theorem so_ild (C : CTX π own cc nL nb p s m args c) (hk : KS π p l e R s m args below meth c QQ nL pcs k) (hd : decode cc (pcs i) = .ok (J, n)) (hj : pcs (i + 1) = pcs i + n ∧ J = arJ 23 ∧ n = 1) (ho : opILd π.2.2.2.2 k 0 w uc us i lo st) (hI : InvW π w s H locs) (hl : LH π ls nL lo) :
    W p l e R s m args below meth c H locs uc us QQ (F0 m (pcs i) ls (st.map (tV (Pad π)))) := by
  obtain ⟨hx, hb, hml, hown, hts, hK, hF, hsz, hnb⟩ := C
  obtain ⟨hn, rfl, rfl⟩ := hj
  obtain ⟨hP, hD, hS, hN⟩ := id hI
  match st, ho with
  | .int j :: .ref q :: r, ho =>
    obtain ⟨t, z, f, h1, h2, h3, h4⟩ := ho
    have kk := hk.at h4 hn hI hl
    have ht : t = 0 := h2
    subst ht
    rcases h1 with h1 | ⟨h5, h6⟩
    · exact va_iald hx hb hK hP q 0 (wl_get h1) (tys_get (by decide)) h3 hd kk
    · exact va_ti hx hb (t := Pad π q) (N := z) (f := fun j => .int (f j)) (by rw [Pad_fx h5]; exact (hF.2.1 _ _ _ _ h6).2) hS h3 rfl hd kk
theorem so_bld (C : CTX π own cc nL nb p s m args c) (hk : KS π p l e R s m args below meth c QQ nL pcs k) (hd : decode cc (pcs i) = .ok (J, n)) (hj : pcs (i + 1) = pcs i + n ∧ J = arJ 25 ∧ n = 1) (ho : opILd π.2.2.2.2 k 1 w uc us i lo st) (hI : InvW π w s H locs) (hl : LH π ls nL lo) :
    W p l e R s m args below meth c H locs uc us QQ (F0 m (pcs i) ls (st.map (tV (Pad π)))) := by
  obtain ⟨hx, hb, hml, hown, hts, hK, hF, hsz, hnb⟩ := C
  obtain ⟨hn, rfl, rfl⟩ := hj
  obtain ⟨hP, hD, hS, hN⟩ := id hI
  match st, ho with
  | .int j :: .ref q :: r, ho =>
    obtain ⟨t, z, f, h1, h2, h3, h4⟩ := ho
    have kk := hk.at h4 hn hI hl
    have ht : t = 2 ∨ t = 3 := h2
    rcases h1 with h1 | ⟨h5, h6⟩
    · rcases ht with rfl | rfl
      · exact va_bald hx hb hK hP q 2 (wl_get h1) (tys_get (by decide)) h3 hd kk
      · exact va_zald hx hb hK hP q 3 (wl_get h1) (tys_get (by decide)) h3 hd kk
    · obtain ⟨h7, h8⟩ := hF.2.1 _ _ _ _ h6
      have ht2 : t = 2 := by omega
      subst ht2
      exact va_tb hx hb (t := Pad π q) (N := z) (f := fun j => .int (f j)) (by rw [Pad_fx h5]; exact h8) hS h3 rfl hd kk
theorem so_ist (C : CTX π own cc nL nb p s m args c) (hk : KS π p l e R s m args below meth c QQ nL pcs k) (hd : decode cc (pcs i) = .ok (J, n)) (hj : pcs (i + 1) = pcs i + n ∧ J = arJ 24 ∧ n = 1) (ho : opISt k 0 w uc us i lo st) (hI : InvW π w s H locs) (hl : LH π ls nL lo) :
    W p l e R s m args below meth c H locs uc us QQ (F0 m (pcs i) ls (st.map (tV (Pad π)))) := by
  obtain ⟨hx, hb, hml, hown, hts, hK, hF, hsz, hnb⟩ := C
  obtain ⟨hn, rfl, rfl⟩ := hj
  obtain ⟨hP, hD, hS, hN⟩ := id hI
  match st, ho with
  | .int x :: .int j :: .ref q :: r, ho =>
    obtain ⟨t, z, f, h1, h2, h3, h4⟩ := ho
    have ht : t = 0 := h2
    subst ht
    exact va_iast hx hb hK hP hD hS q 0 (wl_get h1) (tys_get (by decide)) h3 hd (fun H1 locs1 hP1 hD1 hS1 => by
      rw [show (Pad π q, (.inl (π.2.1 0, z, .inl (upd f j.toNatClampNeg x)) : va_E)) = (Pad π q, tE (Pad π) π.2.1 (.inl (0, z, .inl (upd f j.toNatClampNeg x)))) from rfl, wl_up] at hP1 hD1
      exact hk.at h4 hn ⟨hP1, hD1, hS1, hN⟩ hl)
theorem so_bst (C : CTX π own cc nL nb p s m args c) (hk : KS π p l e R s m args below meth c QQ nL pcs k) (hd : decode cc (pcs i) = .ok (J, n)) (hj : pcs (i + 1) = pcs i + n ∧ J = arJ 26 ∧ n = 1) (ho : opISt k 1 w uc us i lo st) (hI : InvW π w s H locs) (hl : LH π ls nL lo) :
    W p l e R s m args below meth c H locs uc us QQ (F0 m (pcs i) ls (st.map (tV (Pad π)))) := by
  obtain ⟨hx, hb, hml, hown, hts, hK, hF, hsz, hnb⟩ := C
  obtain ⟨hn, rfl, rfl⟩ := hj
  obtain ⟨hP, hD, hS, hN⟩ := id hI
  match st, ho with
  | .int x :: .int j :: .ref q :: r, ho =>
    obtain ⟨t, z, f, h1, h2, h3, h4⟩ := ho
    have ht : t = 2 ∨ t = 3 := h2
    rcases ht with rfl | rfl
    · exact va_bast hx hb hK hP hD hS q 2 (wl_get h1) (tys_get (by decide)) h3 hd (fun H1 locs1 hP1 hD1 hS1 => by
      rw [show (Pad π q, (.inl (π.2.1 2, z, .inl (upd f j.toNatClampNeg (vp_nar .byte x))) : va_E)) = (Pad π q, tE (Pad π) π.2.1 (.inl (2, z, .inl (upd f j.toNatClampNeg (vp_nar .byte x))))) from rfl, wl_up] at hP1 hD1
      exact hk.at h4 hn ⟨hP1, hD1, hS1, hN⟩ hl)
    · exact va_zast hx hb hK hP hD hS q 3 (wl_get h1) (tys_get (by decide)) h3 hd (fun H1 locs1 hP1 hD1 hS1 => by
      rw [show (Pad π q, (.inl (π.2.1 3, z, .inl (upd f j.toNatClampNeg (vp_nar .boolean x))) : va_E)) = (Pad π q, tE (Pad π) π.2.1 (.inl (3, z, .inl (upd f j.toNatClampNeg (vp_nar .boolean x))))) from rfl, wl_up] at hP1 hD1
      exact hk.at h4 hn ⟨hP1, hD1, hS1, hN⟩ hl)
theorem so_lld (C : CTX π own cc nL nb p s m args c) (hk : KS π p l e R s m args below meth c QQ nL pcs k) (hd : decode cc (pcs i) = .ok (J, n)) (hj : pcs (i + 1) = pcs i + n ∧ J = arJ 27 ∧ n = 1) (ho : opLLd k w uc us i lo st) (hI : InvW π w s H locs) (hl : LH π ls nL lo) :
    W p l e R s m args below meth c H locs uc us QQ (F0 m (pcs i) ls (st.map (tV (Pad π)))) := by
  obtain ⟨hx, hb, hml, hown, hts, hK, hF, hsz, hnb⟩ := C
  obtain ⟨hn, rfl, rfl⟩ := hj
  obtain ⟨hP, hD, hS, hN⟩ := id hI
  match st, ho with
  | .int j :: .ref q :: r, ho =>
    obtain ⟨z, f, h1, h3, h4⟩ := ho
    exact va_lald hx hb hK hP q 1 (wl_get h1) (tys_get (by decide)) h3 hd (hk.at h4 hn hI hl)
theorem so_lst (C : CTX π own cc nL nb p s m args c) (hk : KS π p l e R s m args below meth c QQ nL pcs k) (hd : decode cc (pcs i) = .ok (J, n)) (hj : pcs (i + 1) = pcs i + n ∧ J = arJ 28 ∧ n = 1) (ho : opLSt k w uc us i lo st) (hI : InvW π w s H locs) (hl : LH π ls nL lo) :
    W p l e R s m args below meth c H locs uc us QQ (F0 m (pcs i) ls (st.map (tV (Pad π)))) := by
  obtain ⟨hx, hb, hml, hown, hts, hK, hF, hsz, hnb⟩ := C
  obtain ⟨hn, rfl, rfl⟩ := hj
  obtain ⟨hP, hD, hS, hN⟩ := id hI
  match st, ho with
  | .long x :: .int j :: .ref q :: r, ho =>
    obtain ⟨z, f, h1, h3, h4⟩ := ho
    exact va_last hx hb hK hP hD hS q 1 (wl_get h1) (tys_get (by decide)) h3 hd (fun H1 locs1 hP1 hD1 hS1 => by
      rw [show (Pad π q, (.inl (π.2.1 1, z, .inr (.inl (vp_updL f j.toNatClampNeg x))) : va_E)) = (Pad π q, tE (Pad π) π.2.1 (.inl (1, z, .inr (.inl (vp_updL f j.toNatClampNeg x))))) from rfl, wl_up] at hP1 hD1
      exact hk.at h4 hn ⟨hP1, hD1, hS1, hN⟩ hl)
theorem tyT_obj {t : Nat} (h : 4 ≤ t ∧ t < nTy) : ∃ D, tyT t = .object D := by
  obtain ⟨h1, h2⟩ := h
  have h3 : nTy = 8 := rfl
  rcases (show t = 4 ∨ t = 5 ∨ t = 6 ∨ t = 7 by omega) with rfl | rfl | rfl | rfl <;> exact ⟨_, rfl⟩

theorem so_ald (C : CTX π own cc nL nb p s m args c) (hk : KS π p l e R s m args below meth c QQ nL pcs k) (hd : decode cc (pcs i) = .ok (J, n)) (hj : pcs (i + 1) = pcs i + n ∧ J = arJ 29 ∧ n = 1) (ho : opALd k w uc us i lo st) (hI : InvW π w s H locs) (hl : LH π ls nL lo) :
    W p l e R s m args below meth c H locs uc us QQ (F0 m (pcs i) ls (st.map (tV (Pad π)))) := by
  obtain ⟨hx, hb, hml, hown, hts, hK, hF, hsz, hnb⟩ := C
  obtain ⟨hn, rfl, rfl⟩ := hj
  obtain ⟨hP, hD, hS, hN⟩ := id hI
  match st, ho with
  | .int j :: .ref q :: r, ho =>
    obtain ⟨t, z, f, y, h1, h2, h3, h4, h5⟩ := ho
    obtain ⟨CC, hCC⟩ := tyT_obj h2
    refine va_aldq hx hb hK hP q t (wl_get h1) (by rw [tys_get h2.2, hCC]) h3 hd ?_
    have kk := hk.at h5 hn hI hl
    rw [show va_rf ((f j.toNatClampNeg).map (Pad π)) = Value.ref (Pad π y) by rw [h4]; rfl]
    exact kk
theorem so_ast (C : CTX π own cc nL nb p s m args c) (hk : KS π p l e R s m args below meth c QQ nL pcs k) (hd : decode cc (pcs i) = .ok (J, n)) (hj : pcs (i + 1) = pcs i + n ∧ J = arJ 30 ∧ n = 1) (ho : opASt k w uc us i lo st) (hI : InvW π w s H locs) (hl : LH π ls nL lo) :
    W p l e R s m args below meth c H locs uc us QQ (F0 m (pcs i) ls (st.map (tV (Pad π)))) := by
  obtain ⟨hx, hb, hml, hown, hts, hK, hF, hsz, hnb⟩ := C
  obtain ⟨hn, rfl, rfl⟩ := hj
  obtain ⟨hP, hD, hS, hN⟩ := id hI
  match st, ho with
  | .ref y :: .int j :: .ref q :: r, ho =>
    obtain ⟨t, z, f, ci, vs, CC, h1, h2, h3, h5, h6, h7, h4⟩ := ho
    cases hcl : vwCl[ci]? with
    | none => rw [hcl] at h5; cases h5
    | some r9 =>
      rw [hcl] at h5
      have h5' : r9.1 = CC := Option.some.inj h5
      refine va_astq hx hb hK hP hD hS q t y ci (wl_get h1) (by rw [tys_get h2.2, h3, h5']) (wl_get h6) hcl h7 hd (fun H1 locs1 hP1 hD1 hS1 => ?_)
      have e9 : tE (Pad π) π.2.1 (.inl (t, z, .inr (.inr (.inr (.inr (va_up f j.toNatClampNeg (some y))))))) = .inl (π.2.1 t, z, .inr (.inr (.inr (.inr (va_up (fun j9 => (f j9).map (Pad π)) j.toNatClampNeg (some (Pad π y))))))) := by
        have e8 : (fun j9 => (va_up f j.toNatClampNeg (some y) j9).map (Pad π)) = va_up (fun j9 => (f j9).map (Pad π)) j.toNatClampNeg (some (Pad π y)) := by
          funext j9
          unfold va_up
          split <;> rfl
        rw [← e8]
        rfl
      rw [← e9, wl_up] at hP1 hD1
      exact hk.at h4 hn ⟨hP1, hD1, hS1, hN⟩ hl
theorem so_getS {b : Nat} (C : CTX π own cc nL nb p s m args c) (hk : KS π p l e R s m args below meth c QQ nL pcs k) (hd : decode cc (pcs i) = .ok (J, n)) (hj : pcs (i + 1) = pcs i + n ∧ n = 3 ∧ b < 2 ∧ ∃ ix, J = .getfield ix ∧ Cond.fieldLink own ix "java/lang/String" (strF b).1 (strF b).2 ∈ WS) (ho : opGetS π.2.2.2.2 k b w uc us i lo st) (hI : InvW π w s H locs) (hl : LH π ls nL lo) :
    W p l e R s m args below meth c H locs uc us QQ (F0 m (pcs i) ls (st.map (tV (Pad π)))) := by
  obtain ⟨hx, hb, hml, hown, hts, hK, hF, hsz, hnb⟩ := C
  obtain ⟨hn, rfl, hb2, ix, rfl, hlk⟩ := hj
  obtain ⟨hP, hD, hS, hN⟩ := id hI
  match st, ho with
  | .ref q :: r, ho =>
    obtain ⟨h1, h2, h3, h4⟩ := ho
    have hq : q - FB < 100 := Nat.sub_lt_left_of_lt_add h1 h2
    obtain ⟨a1, a2, a3⟩ := hF.2.2.1 _ hq h3
    rcases (show b = 0 ∨ b = 1 by omega) with rfl | rfl
    · refine vk_getf hx hb (q := Pad π q) (by rw [Pad_fx h1]; exact a3) hS hown (hts _ hlk) (fun x h => h) hd ?_
      have kk := hk.at h4 hn hI hl
      have e1 : Pad π (q + 100) = π.2.2.2.1 (q - FB + 100) := by rw [Pad_fx (Nat.le_trans h1 (Nat.le_add_right _ _)), Nat.sub_add_comm h1]
      rw [← e1]
      exact kk
    · exact vk_getf hx hb (q := Pad π q) (by rw [Pad_fx h1]; exact a2) hS hown (hts _ hlk) (fun x h => h) hd (hk.at h4 hn hI hl)
theorem so_gst {a : Nat} (C : CTX π own cc nL nb p s m args c) (hk : KS π p l e R s m args below meth c QQ nL pcs k) (hd : decode cc (pcs i) = .ok (J, n)) (hj : pcs (i + 1) = pcs i + n ∧ n = 3 ∧ a < 4 ∧ ∃ ix, J = .getstatic ix ∧ Cond.fieldLink own ix (stT a).1 (stT a).2.1 (stT a).2.2 ∈ WS) (ho : k w uc us (i + 1) lo (π.2.2.2.2.2 a :: st)) (hI : InvW π w s H locs) (hl : LH π ls nL lo) :
    W p l e R s m args below meth c H locs uc us QQ (F0 m (pcs i) ls (st.map (tV (Pad π)))) := by
  obtain ⟨hx, hb, hml, hown, hts, hK, hF, hsz, hnb⟩ := C
  obtain ⟨hn, rfl, ha, ix, rfl, hlk⟩ := hj
  obtain ⟨hP, hD, hS, hN⟩ := id hI
  exact va_gets hx hb (hF.2.2.2.1 a ha) hS hown (hts _ hlk) (fun x h => h) hd (hk.at ho hn hI hl)
end SOPS
