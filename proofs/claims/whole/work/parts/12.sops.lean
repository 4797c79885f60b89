/-! soundness of the instructions one by one -/
/-- a way to go on that the machine goes, too -/
def KS (π : aP) (p : Program) (l : Launch) (e : Env) (R : Room) (s : State) (m : MethodId) (args : Array Value) (below : List Frame) (meth : Method) (c : Code) (QQ : State → Prop) (nL : Nat) (pcs : Nat → Nat) (k : aK) : Prop :=
  ∀ w uc us i lo st, k w uc us i lo st → ∀ H locs ls, InvW π w s H locs → LH π ls nL lo → W p l e R s m args below meth c H locs uc us QQ (F0 m (pcs i) ls (st.map (tV (Pad π))))
theorem KS.at {π : aP} {p : Program} {l : Launch} {e : Env} {R : Room} {s : State} {m : MethodId} {args : Array Value} {below : List Frame} {meth : Method} {c : Code} {QQ : State → Prop} {nL : Nat} {pcs : Nat → Nat} {k : aK} (hk : KS π p l e R s m args below meth c QQ nL pcs k) {w : aW} {uc us i i' n : Nat} {lo : List (Option Value)} {st : List Value} (h : k w uc us i' lo st) (hn : pcs i' = pcs i + n) {H : Heap} {locs : List Loc} {ls : Array Slot} (hI : InvW π w s H locs) (hl : LH π ls nL lo) :
    W p l e R s m args below meth c H locs uc us QQ (F0 m (pcs i + n) ls (st.map (tV (Pad π)))) := by
  have h1 := hk _ _ _ _ _ _ h H locs ls hI hl
  rw [hn] at h1
  exact h1
section SOPS
variable {π : aP} {p : Program} {l : Launch} {e : Env} {R : Room} {s : State} {m : MethodId} {args : Array Value} {below : List Frame} {meth : Method} {c : Code} {QQ : State → Prop}
variable {own : String} {cc : ByteArray} {nL nb : Nat} {pcs : Nat → Nat} {k : aK} {w : aW} {uc us i : Nat} {lo : List (Option Value)} {st : List Value} {H : Heap} {locs : List Loc} {ls : Array Slot} {J : Instr} {n : Nat}

theorem so_ld {a b : Nat} (C : CTX π own cc nL nb p s m args c) (hk : KS π p l e R s m args below meth c QQ nL pcs k) (hd : decode cc (pcs i) = .ok (J, n)) (hj : pcs (i + 1) = pcs i + n ∧ ldJ a b J n) (ho : opLd k a b w uc us i lo st) (hI : InvW π w s H locs) (hl : LH π ls nL lo) :
    W p l e R s m args below meth c H locs uc us QQ (F0 m (pcs i) ls (st.map (tV (Pad π)))) := by
  obtain ⟨hx, hb, hml, hown, hts, hK, hF, hsz, hnb⟩ := C
  obtain ⟨v, h1, h2, h3⟩ := ho
  obtain ⟨hn, hj⟩ := hj
  have hsl := hl.2.2.2 a v h1
  have kk := hk.at h3 hn hI hl
  subst h2
  cases v <;> simp only [kindV, ldJ] at hj
  · rcases hj with ⟨rfl, rfl⟩ | ⟨z, rfl, hz, rfl⟩
    · exact lv_iload hx hb hd hsl kk
    · exact lv_iload_n hx hb hd hz hsl kk
  · rcases hj with ⟨rfl, rfl⟩ | ⟨z, rfl, hz, rfl⟩
    · exact lv_lload hx hb hd hsl kk
    · exact lv_lload_n hx hb hd hz hsl kk
  · rcases hj with ⟨rfl, rfl⟩ | ⟨z, rfl, hz, rfl⟩
    · exact lv_aload hx hb hd hsl kk
    · exact lv_aload_n hx hb hd hz hsl kk
theorem so_st {a b : Nat} (C : CTX π own cc nL nb p s m args c) (hk : KS π p l e R s m args below meth c QQ nL pcs k) (hd : decode cc (pcs i) = .ok (J, n)) (hj : pcs (i + 1) = pcs i + n ∧ stJ a b J n) (ho : opSt k a b w uc us i lo st) (hI : InvW π w s H locs) (hl : LH π ls nL lo) :
    W p l e R s m args below meth c H locs uc us QQ (F0 m (pcs i) ls (st.map (tV (Pad π)))) := by
  obtain ⟨hx, hb, hml, hown, hts, hK, hF, hsz, hnb⟩ := C
  obtain ⟨hn, hj⟩ := hj
  cases st with
  | nil => exact ho.elim
  | cons v r =>
    obtain ⟨h2, h3, h4, h5⟩ := ho
    rw [hl.2.1] at h3 h4
    subst h2
    cases v <;> simp only [kindV, stJ] at hj
    · have kk : ∀ ls' : Array Slot, lv_has ls' nL _ → _ := fun ls' h' => hk.at h5 hn hI (hl.st1 h3 rfl h')
      rcases hj with ⟨rfl, rfl⟩ | ⟨z, rfl, hz, rfl⟩
      · exact lv_istore hx hb hd hl.has h3 rfl kk
      · exact lv_istore_n hx hb hd hz hl.has h3 rfl kk
    · have kk : ∀ ls' : Array Slot, lv_has ls' nL _ → _ := fun ls' h' => hk.at h5 hn hI (hl.st2 (h4 rfl) rfl h')
      rcases hj with ⟨rfl, rfl⟩ | ⟨z, rfl, hz, rfl⟩
      · exact lv_lstore hx hb hd hl.has (h4 rfl) rfl kk
      · exact lv_lstore_n hx hb hd hz hl.has (h4 rfl) rfl kk
    · have kk : ∀ ls' : Array Slot, lv_has ls' nL _ → _ := fun ls' h' => hk.at h5 hn hI (hl.st1 h3 rfl h')
      rcases hj with ⟨rfl, rfl⟩ | ⟨z, rfl, hz, rfl⟩
      · exact lv_astore hx hb hd hl.has h3 rfl kk
      · exact lv_astore_n hx hb hd hz hl.has h3 rfl kk
theorem so_co {a : Nat} {v : Value} (C : CTX π own cc nL nb p s m args c) (hk : KS π p l e R s m args below meth c QQ nL pcs k) (hd : decode cc (pcs i) = .ok (J, n)) (hj : pcs (i + 1) = pcs i + n ∧ coJ own a v J n) (ho : k w uc us (i + 1) lo (v :: st)) (hI : InvW π w s H locs) (hl : LH π ls nL lo) :
    W p l e R s m args below meth c H locs uc us QQ (F0 m (pcs i) ls (st.map (tV (Pad π)))) := by
  obtain ⟨hx, hb, hml, hown, hts, hK, hF, hsz, hnb⟩ := C
  obtain ⟨hn, hj⟩ := hj
  have kk := hk.at ho hn hI hl
  unfold coJ at hj
  split at hj
  · obtain ⟨z, rfl, rfl, rfl⟩ := hj
    exact lv_iconst hx hb hd rfl kk
  · obtain ⟨z, rfl, rfl, rfl⟩ := hj
    exact lv_bipush hx hb hd rfl kk
  · obtain ⟨z, rfl, rfl, rfl⟩ := hj
    exact lv_sipush hx hb hd rfl kk
  · obtain ⟨z, rfl, rfl, rfl⟩ := hj
    exact lv_lconst hx hb hd rfl kk
  · obtain ⟨ix, x, rfl, rfl, rfl, hw⟩ := hj
    exact lv_ldc2 hx hb hown (hts _ hw) hd kk
theorem so_inc {a : Nat} {v : Value} (C : CTX π own cc nL nb p s m args c) (hk : KS π p l e R s m args below meth c QQ nL pcs k) (hd : decode cc (pcs i) = .ok (J, n)) (hj : pcs (i + 1) = pcs i + n ∧ ∃ z, J = .iinc a z ∧ n = 3 ∧ v = .int (Int32.ofInt z)) (ho : opInc k a v w uc us i lo st) (hI : InvW π w s H locs) (hl : LH π ls nL lo) :
    W p l e R s m args below meth c H locs uc us QQ (F0 m (pcs i) ls (st.map (tV (Pad π)))) := by
  obtain ⟨hx, hb, hml, hown, hts, hK, hF, hsz, hnb⟩ := C
  obtain ⟨hn, z, rfl, rfl, rfl⟩ := hj
  obtain ⟨x, h1, h2⟩ := ho
  have ha : a < nL := by
    have := (List.getElem?_eq_some_iff.mp h1).1
    rw [hl.2.1] at this
    exact this
  obtain ⟨q, hq⟩ := List.getElem?_of_mem (prs_mem.mpr ⟨ha, _, h1, rfl⟩ : ((a, tV (Pad π) (.int x)) : Nat × Value) ∈ prs π nL lo)
  exact lv_iinc hx hb hd hl.has hq rfl ha rfl (fun ls' h' => hk.at h2 hn hI (hl.st1 ha rfl h'))
theorem so_bin {b : Nat} (C : CTX π own cc nL nb p s m args c) (hk : KS π p l e R s m args below meth c QQ nL pcs k) (hd : decode cc (pcs i) = .ok (J, n)) (hj : pcs (i + 1) = pcs i + n ∧ J = binJ b ∧ n = 1 ∧ b < 8) (ho : opBin k b w uc us i lo st) (hI : InvW π w s H locs) (hl : LH π ls nL lo) :
    W p l e R s m args below meth c H locs uc us QQ (F0 m (pcs i) ls (st.map (tV (Pad π)))) := by
  obtain ⟨hx, hb, hml, hown, hts, hK, hF, hsz, hnb⟩ := C
  obtain ⟨hn, rfl, rfl, hb8⟩ := hj
  match st, ho with
  | .int y :: .int x :: r, ho =>
    have kk := hk.at ho hn hI hl
    rcases (show b = 0 ∨ b = 1 ∨ b = 2 ∨ b = 3 ∨ b = 4 ∨ b = 5 ∨ b = 6 ∨ b = 7 by omega) with rfl | rfl | rfl | rfl | rfl | rfl | rfl | rfl
    · exact lv_iadd hx hb hd kk
    · exact lv_isub hx hb hd kk
    · exact lv_imul hx hb hd kk
    · exact lv_iand hx hb hd kk
    · exact lv_ior hx hb hd kk
    · exact lv_ixor hx hb hd kk
    · exact lv_ishl hx hb hd kk
    · exact lv_ishr hx hb hd kk
theorem so_dv {b : Nat} (C : CTX π own cc nL nb p s m args c) (hk : KS π p l e R s m args below meth c QQ nL pcs k) (hd : decode cc (pcs i) = .ok (J, n)) (hj : pcs (i + 1) = pcs i + n ∧ J = dvJ b ∧ n = 1 ∧ b < 2) (ho : opDv k b w uc us i lo st) (hI : InvW π w s H locs) (hl : LH π ls nL lo) :
    W p l e R s m args below meth c H locs uc us QQ (F0 m (pcs i) ls (st.map (tV (Pad π)))) := by
  obtain ⟨hx, hb, hml, hown, hts, hK, hF, hsz, hnb⟩ := C
  obtain ⟨hn, rfl, rfl, hb8⟩ := hj
  match st, ho with
  | .int y :: .int x :: r, ho =>
    have kk := hk.at ho.2 hn hI hl
    rcases (show b = 0 ∨ b = 1 by omega) with rfl | rfl
    · exact lv_idiv hx hb hd ho.1 kk
    · exact lv_irem hx hb hd ho.1 kk
theorem so_un {b : Nat} (C : CTX π own cc nL nb p s m args c) (hk : KS π p l e R s m args below meth c QQ nL pcs k) (hd : decode cc (pcs i) = .ok (J, n)) (hj : pcs (i + 1) = pcs i + n ∧ J = unJ b ∧ n = 1 ∧ b < 4) (ho : opUn k b w uc us i lo st) (hI : InvW π w s H locs) (hl : LH π ls nL lo) :
    W p l e R s m args below meth c H locs uc us QQ (F0 m (pcs i) ls (st.map (tV (Pad π)))) := by
  obtain ⟨hx, hb, hml, hown, hts, hK, hF, hsz, hnb⟩ := C
  obtain ⟨hn, rfl, rfl, hb8⟩ := hj
  match st, ho with
  | .int x :: r, ho =>
    have kk := hk.at ho hn hI hl
    rcases (show b = 0 ∨ b = 1 ∨ b = 2 ∨ b = 3 by omega) with rfl | rfl | rfl | rfl
    · exact lv_i2l hx hb hd rfl kk
    · exact lv_i2b hx hb hd rfl kk
    · exact lv_i2c hx hb hd rfl kk
    · exact lv_ineg hx hb hd kk
theorem so_binL {b : Nat} (C : CTX π own cc nL nb p s m args c) (hk : KS π p l e R s m args below meth c QQ nL pcs k) (hd : decode cc (pcs i) = .ok (J, n)) (hj : pcs (i + 1) = pcs i + n ∧ J = binLJ b ∧ n = 1 ∧ b < 4) (ho : opBinL k b w uc us i lo st) (hI : InvW π w s H locs) (hl : LH π ls nL lo) :
    W p l e R s m args below meth c H locs uc us QQ (F0 m (pcs i) ls (st.map (tV (Pad π)))) := by
  obtain ⟨hx, hb, hml, hown, hts, hK, hF, hsz, hnb⟩ := C
  obtain ⟨hn, rfl, rfl, hb8⟩ := hj
  match st, ho with
  | .long y :: .long x :: r, ho =>
    have kk := hk.at ho hn hI hl
    rcases (show b = 0 ∨ b = 1 ∨ b = 2 ∨ b = 3 by omega) with rfl | rfl | rfl | rfl
    · exact lv_ladd hx hb hd kk
    · exact lv_lsub hx hb hd kk
    · exact lv_lmul hx hb hd kk
    · exact lv_lor hx hb hd kk
theorem so_dvL {b : Nat} (C : CTX π own cc nL nb p s m args c) (hk : KS π p l e R s m args below meth c QQ nL pcs k) (hd : decode cc (pcs i) = .ok (J, n)) (hj : pcs (i + 1) = pcs i + n ∧ J = dvLJ b ∧ n = 1 ∧ b < 2) (ho : opDvL k b w uc us i lo st) (hI : InvW π w s H locs) (hl : LH π ls nL lo) :
    W p l e R s m args below meth c H locs uc us QQ (F0 m (pcs i) ls (st.map (tV (Pad π)))) := by
  obtain ⟨hx, hb, hml, hown, hts, hK, hF, hsz, hnb⟩ := C
  obtain ⟨hn, rfl, rfl, hb8⟩ := hj
  match st, ho with
  | .long y :: .long x :: r, ho =>
    have kk := hk.at ho.2 hn hI hl
    rcases (show b = 0 ∨ b = 1 by omega) with rfl | rfl
    · exact lv_ldiv hx hb hd ho.1 kk
    · exact lv_lrem hx hb hd ho.1 kk
theorem so_cmL (C : CTX π own cc nL nb p s m args c) (hk : KS π p l e R s m args below meth c QQ nL pcs k) (hd : decode cc (pcs i) = .ok (J, n)) (hj : pcs (i + 1) = pcs i + n ∧ J = .lcmp ∧ n = 1) (ho : opCmL k w uc us i lo st) (hI : InvW π w s H locs) (hl : LH π ls nL lo) :
    W p l e R s m args below meth c H locs uc us QQ (F0 m (pcs i) ls (st.map (tV (Pad π)))) := by
  obtain ⟨hx, hb, hml, hown, hts, hK, hF, hsz, hnb⟩ := C
  obtain ⟨hn, rfl, rfl⟩ := hj
  match st, ho with
  | .long y :: .long x :: r, ho => exact W.lcmp hx hb hd (hk.at ho hn hI hl)
theorem so_shL (C : CTX π own cc nL nb p s m args c) (hk : KS π p l e R s m args below meth c QQ nL pcs k) (hd : decode cc (pcs i) = .ok (J, n)) (hj : pcs (i + 1) = pcs i + n ∧ J = .lshl ∧ n = 1) (ho : opShL k w uc us i lo st) (hI : InvW π w s H locs) (hl : LH π ls nL lo) :
    W p l e R s m args below meth c H locs uc us QQ (F0 m (pcs i) ls (st.map (tV (Pad π)))) := by
  obtain ⟨hx, hb, hml, hown, hts, hK, hF, hsz, hnb⟩ := C
  obtain ⟨hn, rfl, rfl⟩ := hj
  match st, ho with
  | .int y :: .long x :: r, ho => exact lv_lshl hx hb hd rfl (hk.at ho hn hI hl)
theorem so_dup {b : Nat} (C : CTX π own cc nL nb p s m args c) (hk : KS π p l e R s m args below meth c QQ nL pcs k) (hd : decode cc (pcs i) = .ok (J, n)) (hj : pcs (i + 1) = pcs i + n ∧ J = dupJ b ∧ n = 1 ∧ b < 3) (ho : opDup k b w uc us i lo st) (hI : InvW π w s H locs) (hl : LH π ls nL lo) :
    W p l e R s m args below meth c H locs uc us QQ (F0 m (pcs i) ls (st.map (tV (Pad π)))) := by
  obtain ⟨hx, hb, hml, hown, hts, hK, hF, hsz, hnb⟩ := C
  obtain ⟨hn, rfl, rfl, hb8⟩ := hj
  match b, st, ho with
  | 0, v :: r, ho => exact lv_dup hx hb hd (by rw [tV_cat]; exact ho.1) (hk.at ho.2 hn hI hl)
  | 1, v :: u :: r, ho => exact lv_dup2_11 hx hb hd (by rw [tV_cat]; exact ho.1) (by rw [tV_cat]; exact ho.2.1) (hk.at ho.2.2 hn hI hl)
  | 2, v :: r, ho => exact lv_pop hx hb hd (by rw [tV_cat]; exact ho.1) (hk.at ho.2 hn hI hl)
theorem so_if {a b : Nat} (C : CTX π own cc nL nb p s m args c) (hk : KS π p l e R s m args below meth c QQ nL pcs k) (hd : decode cc (pcs i) = .ok (J, n)) (hj : pcs (i + 1) = pcs i + n ∧ b < 6 ∧ ∃ off, J = .ifCond (cndJ b) off ∧ n = 3 ∧ (pcs i : Int) + off = (pcs a : Int)) (ho : opIf k a b w uc us i lo st) (hI : InvW π w s H locs) (hl : LH π ls nL lo) :
    W p l e R s m args below meth c H locs uc us QQ (F0 m (pcs i) ls (st.map (tV (Pad π)))) := by
  obtain ⟨hx, hb, hml, hown, hts, hK, hF, hsz, hnb⟩ := C
  obtain ⟨hn, hb8, off, rfl, rfl, ht⟩ := hj
  match st, ho with
  | .int x :: r, ho =>
    have kt := fun h => hk _ _ _ _ _ _ (ho.1 h) H locs ls hI hl
    have kf := fun h => hk.at (ho.2 h) hn hI hl
    rcases (show b = 0 ∨ b = 1 ∨ b = 2 ∨ b = 3 ∨ b = 4 ∨ b = 5 by omega) with rfl | rfl | rfl | rfl | rfl | rfl
    · exact lv_if_eq hx hb hd ht kt kf
    · exact lv_if_ne hx hb hd ht kt (fun h => kf (fun h2 => h2 h))
    · exact lv_if_lt hx hb hd ht kt kf
    · exact lv_if_ge hx hb hd ht kt kf
    · exact lv_if_gt hx hb hd ht kt kf
    · exact lv_if_le hx hb hd ht kt kf
theorem so_cmp {a b : Nat} (C : CTX π own cc nL nb p s m args c) (hk : KS π p l e R s m args below meth c QQ nL pcs k) (hd : decode cc (pcs i) = .ok (J, n)) (hj : pcs (i + 1) = pcs i + n ∧ b < 6 ∧ ∃ off, J = .if_icmp (cndJ b) off ∧ n = 3 ∧ (pcs i : Int) + off = (pcs a : Int)) (ho : opCmp k a b w uc us i lo st) (hI : InvW π w s H locs) (hl : LH π ls nL lo) :
    W p l e R s m args below meth c H locs uc us QQ (F0 m (pcs i) ls (st.map (tV (Pad π)))) := by
  obtain ⟨hx, hb, hml, hown, hts, hK, hF, hsz, hnb⟩ := C
  obtain ⟨hn, hb8, off, rfl, rfl, ht⟩ := hj
  match st, ho with
  | .int y :: .int x :: r, ho =>
    have kt := fun h => hk _ _ _ _ _ _ (ho.1 h) H locs ls hI hl
    have kf := fun h => hk.at (ho.2 h) hn hI hl
    rcases (show b = 0 ∨ b = 1 ∨ b = 2 ∨ b = 3 ∨ b = 4 ∨ b = 5 by omega) with rfl | rfl | rfl | rfl | rfl | rfl
    · exact lv_icmp_eq hx hb hd ht kt kf
    · exact lv_icmp_ne hx hb hd ht kt (fun h => kf (fun h2 => h2 h))
    · exact lv_icmp_lt hx hb hd ht kt kf
    · exact lv_icmp_ge hx hb hd ht kt kf
    · exact lv_icmp_gt hx hb hd ht kt kf
    · exact lv_icmp_le hx hb hd ht kt kf
theorem so_go {a : Nat} (C : CTX π own cc nL nb p s m args c) (hk : KS π p l e R s m args below meth c QQ nL pcs k) (hd : decode cc (pcs i) = .ok (J, n)) (hj : ∃ off, J = .goto off ∧ n = 3 ∧ (pcs i : Int) + off = (pcs a : Int)) (ho : k w uc us a lo st) (hI : InvW π w s H locs) (hl : LH π ls nL lo) :
    W p l e R s m args below meth c H locs uc us QQ (F0 m (pcs i) ls (st.map (tV (Pad π)))) := by
  obtain ⟨hx, hb, hml, hown, hts, hK, hF, hsz, hnb⟩ := C
  obtain ⟨off, rfl, rfl, ht⟩ := hj
  exact lv_goto hx hb hd ht (hk _ _ _ _ _ _ ho H locs ls hI hl)
theorem so_sw {a b : Nat} {tl : List Nat} (C : CTX π own cc nL nb p s m args c) (hk : KS π p l e R s m args below meth c QQ nL pcs k) (hd : decode cc (pcs i) = .ok (J, n)) (hj : ∃ dflt lo hi offs, J = .tableswitch dflt lo hi offs ∧ lo = (b : Int) ∧ hi + 1 = (b : Int) + (tl.length : Int) ∧ (pcs i : Int) + dflt = (pcs a : Int) ∧ ∀ (j t : Nat), tl[j]? = some t → ∃ off : Int, offs[j]? = some off ∧ (pcs i : Int) + off = (pcs t : Int)) (ho : opSw k a b tl w uc us lo st) (hI : InvW π w s H locs) (hl : LH π ls nL lo) :
    W p l e R s m args below meth c H locs uc us QQ (F0 m (pcs i) ls (st.map (tV (Pad π)))) := by
  obtain ⟨hx, hb, hml, hown, hts, hK, hF, hsz, hnb⟩ := C
  obtain ⟨dflt, lo9, hi9, offs, rfl, h1, h2, ht, h3⟩ := hj
  match st, ho with
  | .int x :: r, ho =>
    obtain ⟨ho1, ho2⟩ := ho
    by_cases hc : x.toInt < b ∨ b + tl.length ≤ x.toInt
    · exact lv_tableOut hx hb hd (by rcases hc with h | h <;> first | (left; omega) | (right; omega)) ht (hk _ _ _ _ _ _ (ho1 hc) H locs ls hI hl)
    · have hlt : (x.toInt - b).toNat < tl.length := by omega
      obtain ⟨off, hf, hg⟩ := h3 _ _ (List.getElem?_eq_getElem hlt)
      exact lv_tableIn hx hb hd (by omega) (by omega) (by rw [h1]; exact hf) hg (hk _ _ _ _ _ _ (ho2 _ _ (List.getElem?_eq_getElem hlt) (by omega)) H locs ls hI hl)
theorem so_get {a b : Nat} (C : CTX π own cc nL nb p s m args c) (hk : KS π p l e R s m args below meth c QQ nL pcs k) (hd : decode cc (pcs i) = .ok (J, n)) (hj : pcs (i + 1) = pcs i + n ∧ ∃ ix, J = .getfield ix ∧ n = 3 ∧ fldJ own ix a b) (ho : opGet k a b w uc us i lo st) (hI : InvW π w s H locs) (hl : LH π ls nL lo) :
    W p l e R s m args below meth c H locs uc us QQ (F0 m (pcs i) ls (st.map (tV (Pad π)))) := by
  obtain ⟨hx, hb, hml, hown, hts, hK, hF, hsz, hnb⟩ := C
  obtain ⟨hn, ix, rfl, rfl, C, T, N, hc, hbN, hT, hlk⟩ := hj
  obtain ⟨hP, hD, hS, hN⟩ := id hI
  match st, ho with
  | .ref q :: r, ho =>
    obtain ⟨fs, v, h1, h2, h3⟩ := ho
    exact va_get (D := π.1) (ci := a) (v := tV (Pad π) v) hx hb hts (cls_in hc) hown hK hP q (wl_get h1) hc b hbN (hts _ hlk) (fun x h => by rw [hT] at h; exact h) (by rw [List.getElem?_map, h2]; rfl) hd (hk.at h3 hn hI hl)
theorem so_put {a b : Nat} (C : CTX π own cc nL nb p s m args c) (hk : KS π p l e R s m args below meth c QQ nL pcs k) (hd : decode cc (pcs i) = .ok (J, n)) (hj : pcs (i + 1) = pcs i + n ∧ ∃ ix C T N, J = .putfield ix ∧ n = 3 ∧ fldJ own ix a b ∧ vwCl[a]? = some (C, T, N) ∧ (T b).2.2.2 = false) (ho : opPut k a b (ftyA a b) w uc us i lo st) (hI : InvW π w s H locs) (hl : LH π ls nL lo) :
    W p l e R s m args below meth c H locs uc us QQ (F0 m (pcs i) ls (st.map (tV (Pad π)))) := by
  obtain ⟨hx, hb, hml, hown, hts, hK, hF, hsz, hnb⟩ := C
  obtain ⟨hn, ix, C9, T9, N9, rfl, rfl, ⟨C, T, N, hc, hbN, hT, hlk⟩, hc9, hfin⟩ := hj
  cases hc.symm.trans hc9
  obtain ⟨hP, hD, hS, hN⟩ := id hI
  match st, ho with
  | v :: .ref q :: r, ho =>
    obtain ⟨fs, h1, h2, h3, h4, h5⟩ := ho
    refine va_put (D := π.1) (ci := a) (v := tV (Pad π) v) (ty := ftyA a b) hx hb hts (cls_in hc) (ftyA a) (cls_ty hc) (cls_nm hc) hown hK hP hD hS q (wl_get h1) hc b hbN (hts _ hlk) (fun x h => by rw [hT] at h; exact h) hfin (cls_ty hc b hbN) (tV_nar h3) (tV_fit h4) (by rw [List.length_map]; exact h2) hd (fun H1 locs1 hP1 hD1 hS1 => ?_)
    rw [← List.map_set] at hP1 hD1
    rw [show (Pad π q, (Sum.inr (a, (fs.set b v).map (tV (Pad π))) : va_E)) = (Pad π q, tE (Pad π) π.2.1 (.inr (a, fs.set b v))) from rfl, wl_up] at hP1 hD1
    exact hk.at h5 hn ⟨hP1, hD1, hS1, hN⟩ hl
theorem so_putF {a b : Nat} (hin : meth.name = "<init>") (C : CTX π own cc nL nb p s m args c) (hk : KS π p l e R s m args below meth c QQ nL pcs k) (hd : decode cc (pcs i) = .ok (J, n)) (hj : pcs (i + 1) = pcs i + n ∧ ∃ ix C T N, J = .putfield ix ∧ n = 3 ∧ fldJ own ix a b ∧ vwCl[a]? = some (C, T, N) ∧ (T b).2.2.2 = true ∧ C = own ∧ True) (ho : opPut k a b (ftyA a b) w uc us i lo st) (hI : InvW π w s H locs) (hl : LH π ls nL lo) :
    W p l e R s m args below meth c H locs uc us QQ (F0 m (pcs i) ls (st.map (tV (Pad π)))) := by
  obtain ⟨hx, hb, hml, hown, hts, hK, hF, hsz, hnb⟩ := C
  obtain ⟨hn, ix, C9, T9, N9, rfl, rfl, ⟨C, T, N, hc, hbN, hT, hlk⟩, hc9, hfin, hCo, hini⟩ := hj
  cases hc.symm.trans hc9
  obtain ⟨hP, hD, hS, hN⟩ := id hI
  match st, ho with
  | v :: .ref q :: r, ho =>
    obtain ⟨fs, h1, h2, h3, h4, h5⟩ := ho
    refine va_putF (D := π.1) (ci := a) (v := tV (Pad π) v) (ty := ftyA a b) hx hb hts (cls_in hc) (ftyA a) (cls_ty hc) (cls_nm hc) hown hK hP hD hS q (wl_get h1) hc b hbN (hts _ hlk) (fun x h => by rw [hT] at h; exact h) hfin hin (by rw [hT]; exact hCo) (cls_ty hc b hbN) (tV_nar h3) (tV_fit h4) (by rw [List.length_map]; exact h2) hd (fun H1 locs1 hP1 hD1 hS1 => ?_)
    rw [← List.map_set] at hP1 hD1
    rw [show (Pad π q, (Sum.inr (a, (fs.set b v).map (tV (Pad π))) : va_E)) = (Pad π q, tE (Pad π) π.2.1 (.inr (a, fs.set b v))) from rfl, wl_up] at hP1 hD1
    exact hk.at h5 hn ⟨hP1, hD1, hS1, hN⟩ hl
end SOPS
