/-! soundness: throws, returns, whole bodies, methods at any depth -/
section SMAIN
variable {π : aP} {p : Program} {l : Launch} {e : Env} {R : Room} {s : State} {m : MethodId} {args : Array Value} {below : List Frame} {meth : Method} {c : Code} {QQ : State → Prop}
variable {own : String} {cc : ByteArray} {nL nb : Nat} {pcs : Nat → Nat} {k : aK} {w : aW} {uc us i : Nat} {lo : List (Option Value)} {st : List Value} {H : Heap} {locs : List Loc} {ls : Array Slot} {J : Instr} {n : Nat} {I : aInfo}
variable {Qr : Option Value → aW → Prop} {Qx : String → aW → Prop}
/-- what a body owes at its ends -/
def EndR (π : aP) (p : Program) (l : Launch) (e : Env) (R : Room) (s : State) (m : MethodId) (args : Array Value) (below : List Frame) (meth : Method) (c : Code) (QQ : State → Prop) (cc : ByteArray) (I : aInfo) (Qr : Option Value → aW → Prop) : Prop :=
  ∀ (b : Nat) (w : aW) (uc us pc : Nat) (st : List Value) (H : Heap) (locs : List Loc) (ls : Array Slot), b < 4 → decode cc pc = .ok (retJ b, 1) → opRet I Qr b w uc us st → InvW π w s H locs → W p l e R s m args below meth c H locs uc us QQ (F0 m pc ls (st.map (tV (Pad π))))
def EndT (π : aP) (p : Program) (l : Launch) (e : Env) (R : Room) (s : State) (m : MethodId) (args : Array Value) (below : List Frame) (meth : Method) (c : Code) (QQ : State → Prop) (own : String) (cc : ByteArray) (nL : Nat) (I : aInfo) (Qx : String → aW → Prop) : Prop :=
  ∀ (a : Nat) (w : aW) (uc us pc : Nat) (st : List Value) (H : Heap) (locs : List Loc) (ls : Array Slot), thrJ own cc pc a → opThr I Qx a w uc us st → InvW π w s H locs → ls.size = nL → W p l e R s m args below meth c H locs uc us QQ (F0 m pc ls (st.map (tV (Pad π))))
def EndX (π : aP) (p : Program) (l : Launch) (e : Env) (R : Room) (s : State) (m : MethodId) (args : Array Value) (below : List Frame) (meth : Method) (c : Code) (QQ : State → Prop) (I : aInfo) (Qx : String → aW → Prop) : Prop :=
  ∀ (E : String) (w : aW) (uc us pc : Nat) (rest : List Value) (H : Heap) (locs : List Loc) (ls : Array Slot) (q : Nat) (ce : Cell), I.2.2.2 = [] → Qx E w → uc ≤ I.1 → us ≤ I.2.1 → InvW π w s H locs → H[q]? = some ce → ce.vm = .none → s.vm.findClass E = some ce.cls → vx_W p l e R s m args below meth c H locs uc us QQ (F0 m pc ls rest) q
set_option maxHeartbeats 4000000 in
/-- one step -/
theorem so_step {d : Nat} {cs : aS} {K : List aI} {xs : List (Nat × Nat × Nat × Nat)} {ini : Bool} {ins : aI} (hR : 8 + (d + 1) ≤ R.frames ∧ 200 + 60 * (d + 1) ≤ R.locals ∧ R.cells = I.1 ∧ R.slots = I.2.1)
    (hY : ∀ mid, kindOf mid = 0 ∨ kindOf mid = 1 ∨ kindOf mid = 2 → chZ mid = true) (hcs : ∀ mid av w Qr Qx, cs mid av w Qr Qx → MA l π d mid av w Qr Qx) (hini : ini = true → meth.name = "<init>")
    (hcode : ∀ i ins, K[i]? = some ins → OKI own cc ini pcs i ins) (hmono : ∀ x y, x < y → y ≤ K.length → pcs x < pcs y) (hok : HndOK own pcs K.length I.2.2.2 xs) (htab : c.exceptionTable.toList = tableOf xs)
    (ER : EndR π p l e R s m args below meth c QQ cc I Qr) (ET : EndT π p l e R s m args below meth c QQ own cc nL I Qx) (EX9 : EndX π p l e R s m args below meth c QQ I Qx)
    (C : CTX π own cc nL nb p s m args c) (hk : KS π p l e R s m args below meth c QQ nL pcs k) (hins : K[i]? = some ins) (ho : opS π.2.2.2.2 mbOf cs I K k Qr Qx nb ins w uc us i lo st) (hI : InvW π w s H locs) (hl : LH π ls nL lo) :
    W p l e R s m args below meth c H locs uc us QQ (F0 m (pcs i) ls (st.map (tV (Pad π)))) := by
  have hKi : i < K.length := (List.getElem?_eq_some_iff.mp hins).1
  obtain ⟨J, n, hd, hj⟩ := hcode i ins hins
  have hR1 : 1 ≤ R.frames ∧ 100 ≤ R.locals := by omega
  obtain ⟨op, a, b, v, tl⟩ := ins
  unfold opS at ho
  dsimp only at ho
  split at ho
  · exact so_ld C hk hd hj ho hI hl
  · exact so_st C hk hd hj ho hI hl
  · exact so_co C hk hd hj ho hI hl
  · exact so_inc C hk hd hj ho hI hl
  · exact so_bin C hk hd hj ho hI hl
  · exact so_dv C hk hd hj ho hI hl
  · exact so_un C hk hd hj ho hI hl
  · exact so_binL C hk hd hj ho hI hl
  · exact so_dvL C hk hd hj ho hI hl
  · exact so_cmL C hk hd hj ho hI hl
  · exact so_shL C hk hd hj ho hI hl
  · exact so_dup C hk hd hj ho hI hl
  · exact so_if C hk hd hj ho hI hl
  · exact so_cmp C hk hd hj ho hI hl
  · exact so_go C hk hd hj ho hI hl
  · exact so_sw C hk hd hj ho hI hl
  · exact so_get C hk hd hj ho hI hl
  · exact so_put C hk hd hj ho hI hl
  · obtain ⟨h1, ix, C9, T9, N9, h2, h3, h4, h5, h6, h7, h8⟩ := hj
    exact so_putF (hini h8) C hk hd ⟨h1, ix, C9, T9, N9, h2, h3, h4, h5, h6, h7, trivial⟩ ho hI hl
  · exact so_len C hk hd ⟨hj.1, hj.2.2.2⟩ ho hI hl
  · exact so_ild C hk hd ⟨hj.1, hj.2.2.2⟩ ho hI hl
  · exact so_ist C hk hd ⟨hj.1, hj.2.2.2⟩ ho hI hl
  · exact so_bld C hk hd ⟨hj.1, hj.2.2.2⟩ ho hI hl
  · exact so_bst C hk hd ⟨hj.1, hj.2.2.2⟩ ho hI hl
  · exact so_lld C hk hd ⟨hj.1, hj.2.2.2⟩ ho hI hl
  · exact so_lst C hk hd ⟨hj.1, hj.2.2.2⟩ ho hI hl
  · exact so_ald C hk hd ⟨hj.1, hj.2.2.2⟩ ho hI hl
  · exact so_ast C hk hd ⟨hj.1, hj.2.2.2⟩ ho hI hl
  · exact so_new ⟨hR.2.2.1, hR.2.2.2⟩ C hk hd hj ho hI hl
  · exact so_newa ⟨hR.2.2.1, hR.2.2.2⟩ C hk hd hj ho hI hl
  · obtain ⟨hn, rfl, hcj⟩ := hj
    obtain ⟨g1, g2, g3, g4, g5, g6, g7⟩ := ho
    have hkd : chZ a = true := by
      obtain ⟨ix, -, h | h | h⟩ := hcj
      · exact hY _ (Or.inl h.1)
      · exact hY _ (Or.inr (Or.inl h.1))
      · exact hY _ (Or.inr (Or.inr h.1))
    refine W.size9 fun h6 => ?_
    obtain ⟨a9, hrun⟩ := so_callrun hR hkd C hd hcj hI hl h6 g1 g2 g3 g4 g5 g6 (hcs _ _ _ _ _ g7)
    refine so_run C.2.2.2.2.2.2.2.1 hrun hI (fun v w' hq H1 locs1 hI1 => hk.at hq hn hI1 hl) (fun E w' hq H1 locs1 q ce hI1 hce hcv hcl => ?_)
    split at hq
    · rename_i h9 hf
      obtain ⟨a0, vv, ll, e1, e2, e3⟩ := hq
      exact so_catch C hk hmono hKi hok htab hf (hcode _ _ e1) e2 e3 hI1 hl hce hcv hcl
    · exact EX9 E w' _ _ _ _ H1 locs1 ls q ce hq.1 hq.2 g5 g6 hI1 hce hcv hcl
  · exact so_cpy hR1 C hk hd hj ho hI hl
  · exact so_obj hR1 C hk hd hj ho hI hl
  · exact ET a w uc us _ st H locs ls hj ho hI hl.1
  · obtain ⟨rfl, rfl, hb4⟩ := hj
    exact ER b w uc us _ st H locs ls hb4 hd ho hI
  · exact so_str C hk hd hj ho hI hl
  · exact so_gst C hk hd hj ho hI hl
  · exact so_getS C hk hd hj ho hI hl
  · exact ho.elim
/-- a body -/
theorem so_body {d : Nat} {cs : aS} {K : List aI} {xs : List (Nat × Nat × Nat × Nat)} {ini : Bool} (hR : 8 + (d + 1) ≤ R.frames ∧ 200 + 60 * (d + 1) ≤ R.locals ∧ R.cells = I.1 ∧ R.slots = I.2.1)
    (hY : ∀ mid, kindOf mid = 0 ∨ kindOf mid = 1 ∨ kindOf mid = 2 → chZ mid = true) (hcs : ∀ mid av w Qr Qx, cs mid av w Qr Qx → MA l π d mid av w Qr Qx) (hini : ini = true → meth.name = "<init>")
    (hcode : ∀ i ins, K[i]? = some ins → OKI own cc ini pcs i ins) (hmono : ∀ x y, x < y → y ≤ K.length → pcs x < pcs y) (hok : HndOK own pcs K.length I.2.2.2 xs) (htab : c.exceptionTable.toList = tableOf xs)
    (ER : EndR π p l e R s m args below meth c QQ cc I Qr) (ET : EndT π p l e R s m args below meth c QQ own cc nL I Qx) (EX9 : EndX π p l e R s m args below meth c QQ I Qx)
    (C : CTX π own cc nL nb p s m args c) (h : EX π.2.2.2.2 mbOf cs I K Qr Qx nb w uc us i lo st) (hI : InvW π w s H locs) (hl : LH π ls nL lo) :
    W p l e R s m args below meth c H locs uc us QQ (F0 m (pcs i) ls (st.map (tV (Pad π)))) := by
  refine h (fun w uc us i lo st => ∀ H locs ls, InvW π w s H locs → LH π ls nL lo → W p l e R s m args below meth c H locs uc us QQ (F0 m (pcs i) ls (st.map (tV (Pad π))))) (fun w uc us i lo st ins hins ho H locs ls hI hl => ?_) H locs ls hI hl
  exact so_step hR hY hcs hini hcode hmono hok htab ER ET EX9 C (fun _ _ _ _ _ _ h => h) hins ho hI hl
/-! the ends of a method's body -/
theorem endR_met {d : Nat} {mc ms : Nat} (hx : p.tables.exec = Jvm.exec) (hb : c.code = cc) (hlocks : meth.locks = false) (hr : meth.sig.returnType = I.2.2.1) (h1 : I.1 = mc) (h2 : I.2.1 = ms) : EndR π p l e R s m args below meth c (vx_MQ below (QcA π Qr) (XcA π Qx) args s mc ms (PA π)) cc I Qr := by
  intro b w uc us pc st H locs ls hb4 hd ho hI
  obtain ⟨g1, g2, g3⟩ := ho
  obtain ⟨hP, hD, hS, hN⟩ := hI
  subst h1; subst h2
  refine W.widen g1 g2 (vx_ret ?_)
  have hq : ∀ v : Option Value, Qr v w → ∀ t : State, t.heap = H → s.WarmedH t.vm → QcA π Qr args s (.returned (v.map (tV (Pad π)))) t := fun v hv t ht _ => ⟨⟨v, w, rfl, hv, by rw [ht]; exact hP, hD, hN⟩, hS.F ht⟩
  match b, st, g3 with
  | 0, [.int x], g3 =>
    obtain ⟨⟨ty, e1, e2, -, -⟩, e5⟩ := g3
    exact W.zret (ty := ty) hx hb (hr.trans e1) e2 (hq _ e5) hS.2.2 hd hlocks
  | 1, [.ref q], g3 =>
    obtain ⟨⟨CC, e1⟩, e5⟩ := g3
    exact W.aret (rt := .object CC) hx hb (hr.trans e1) (Or.inl ⟨_, rfl⟩) (Or.inr ⟨_, rfl⟩) (hq _ e5) hS.2.2 hd hlocks
  | 2, [.long x], g3 => exact W.lret hx hb (hr.trans g3.1) (hq _ g3.2) hS.2.2 hd hlocks
  | 3, [], g3 => exact W.vret hx hb (hr.trans g3.1) (hq _ g3.2) hS.2.2 hd hlocks
theorem endX_met {mc ms : Nat} (hlocks : meth.locks = false) (htab : I.2.2.2 = [] → c.exceptionTable.toList = []) (h1 : I.1 = mc) (h2 : I.2.1 = ms) : EndX π p l e R s m args below meth c (vx_MQ below (QcA π Qr) (XcA π Qx) args s mc ms (PA π)) I Qx := by
  intro E w uc us pc rest H locs ls q ce h0 hq g1 g2 hI hce hcv hcl
  obtain ⟨hP, hD, hS, hN⟩ := hI
  exact vx_out (fun x hx => by rw [htab h0] at hx; cases hx) hlocks hce hcv hcl (fun t ht hv => ⟨⟨w, hq, by rw [ht]; exact hP, hD, hN⟩, hS.F ht⟩) hS.2.2 (h1 ▸ g1) (h2 ▸ g2)
/-- the words of a throw -/
theorem thr_words {a : Nat} (ha : a < 3) : (∀ w ∈ vx_atS RX10 (icOf a).2 (exN a) exSup, w ∈ lw_tbl ∧ (goodWord w = true ∨ warmW w = true) ∧ vx_ot w = true) := by
  have key : ∀ b, (vx_atS RX10 (icOf b).2 (exN b) exSup).all (fun w => decide (w ∈ lw_tbl) && (goodWord w || warmW w) && vx_ot w) = true → ∀ w ∈ vx_atS RX10 (icOf b).2 (exN b) exSup, w ∈ lw_tbl ∧ (goodWord w = true ∨ warmW w = true) ∧ vx_ot w = true := by
    intro b h w hw
    have h1 := List.all_eq_true.mp h w hw
    simp only [Bool.and_eq_true, Bool.or_eq_true, decide_eq_true_eq] at h1
    exact ⟨h1.1.1, h1.1.2, h1.2⟩
  rcases (show a = 0 ∨ a = 1 ∨ a = 2 by omega) with rfl | rfl | rfl
  · exact key 0 cx_0
  · exact key 1 cx_1
  · exact key 2 cx_2
theorem thr_link {a : Nat} (ha : a < 4) : Cond.classLink RX10 (icOf a).1 (exN a) ∈ WS ∧ Cond.initialized (exN a) ∈ WS := by
  have h1 := List.all_eq_true.mp cx_l a (by simp; omega)
  simp only [Bool.and_eq_true, decide_eq_true_eq] at h1
  exact ⟨List.mem_filter.mpr ⟨h1.1.1, rfl⟩, List.mem_filter.mpr ⟨h1.1.2, rfl⟩⟩
theorem exN_fit {a : Nat} (ha : a < 4) : Bundle.fit (exN a) = true := by
  rcases (show a = 0 ∨ a = 1 ∨ a = 2 ∨ a = 3 by omega) with rfl | rfl | rfl | rfl <;> decide +kernel
theorem exSup_fit : ∀ n ∈ exSup, Bundle.fit n = true := by decide +kernel
theorem endT_met {d : Nat} {mc ms : Nat} (hst : l.stackTraces = false) (hR : 8 + (d + 1) ≤ R.frames ∧ 200 + 60 * (d + 1) ≤ R.locals ∧ R.cells = I.1 ∧ R.slots = I.2.1) (hlocks : meth.locks = false) (htab : I.2.2.2 = [] → c.exceptionTable.toList = []) (h1 : I.1 = mc) (h2 : I.2.1 = ms) (C : CTX π own cc nL nb p s m args c)
    (h3 : ∀ (w : aW) (uc us pc : Nat) (st : List Value) (H : Heap) (locs : List Loc) (ls : Array Slot), thrJ own cc pc 3 → opThr I Qx 3 w uc us st → InvW π w s H locs → ls.size = nL → W p l e R s m args below meth c H locs uc us (vx_MQ below (QcA π Qr) (XcA π Qx) args s mc ms (PA π)) (F0 m pc ls (st.map (tV (Pad π))))) :
    EndT π p l e R s m args below meth c (vx_MQ below (QcA π Qr) (XcA π Qx) args s mc ms (PA π)) own cc nL I Qx := by
  intro a w uc us pc st H locs ls hj ho hI hls
  by_cases ha3 : a = 3
  · subst ha3
    exact h3 w uc us pc st H locs ls hj ho hI hls
  obtain ⟨hx, hb, hml, hown, hts, hK, hF, hsz, hnb⟩ := C
  obtain ⟨hP, hD, hS, hN⟩ := hI
  obtain ⟨is, text, sd, rfl, ha, d0, d3, hstr, hd⟩ := hj
  obtain ⟨g1, g2, g3, g4, g5, g6⟩ := ho
  obtain ⟨sa, hsa, -⟩ := hF.2.2.2.2.1 _ hstr
  have hw := thr_words (show a < 3 by omega)
  obtain ⟨hl1, hl2⟩ := thr_link ha
  have hat : ∀ w ∈ vx_atS RX10 (icOf a).2 (exN a) exSup, w.before args s = true := fun w9 h9 => by
    obtain ⟨e1, e2, e3⟩ := hw w9 h9
    rcases e2 with e2 | e2
    · exact hts _ (List.mem_filter.mpr ⟨e1, e2⟩)
    · refine va_Nw.use ?_ (hF.2.2.2.2.2.1 _ e1 e2)
      cases w9 <;> first | rfl | exact absurd e2 (by simp [warmW])
  have hgood : ∀ w ∈ Cond.classLink RX10 (icOf a).1 (exN a) :: Cond.initialized (exN a) :: vx_atS RX10 (icOf a).2 (exN a) exSup, vx_ot w = true := by
    intro w9 h9
    rcases List.mem_cons.mp h9 with rfl | h9
    · rfl
    · rcases List.mem_cons.mp h9 with rfl | h9
      · rfl
      · exact (hw w9 h9).2.2
  have hcat : ((st.map (tV (Pad π))).map fun v => v.category).sum ≤ 8 := by rw [map_cat9]; exact g3
  have hx9 : ∀ t : State, s.vm.Alike t.vm → H.size ≤ t.heap.size → (∀ q : Nat, q < H.size → t.heap[q]? = H[q]?) → XcA π Qx (exN a) s t := fun t hv hs hq =>
    ⟨⟨w, g6, hP.kept (fun k q hk => hq _ ((hP k q hk).lt)), hD, hN⟩, Nat.le_trans hS.1 hs, fun q h1 h2 => (hq q (Nat.lt_of_lt_of_le h1 hS.1)).trans (hS.2.1 q h1 h2)⟩
  rcases hd with ⟨e4, e6, e9⟩ | ⟨e4, e7, e10⟩
  · exact vx_throwS (names := exSup) (sa := sa) (A := PA π) hx hb hst hown (exN_fit ha) exSup_fit (hts _ hl1) (hts _ hl2) hsa hat hgood hF.1.1 hF.1.2 hS (by rw [hml]; exact hls) d0 d3 e4 e6 e9 (fun x hx => by rw [htab g2] at hx; cases hx)
      (by have := hR.1; show 2 + 3 < _; omega) (by have := hR.2.1; show _ + (13 * (2 + 1) + 43) ≤ _; omega) (by rw [hR.2.2.1]; exact g4) (by rw [hR.2.2.2]; exact g5) hlocks hx9 hS.2.2 (h1 ▸ g4) (h2 ▸ g5)
  · exact vx_throwSW (names := exSup) (sa := sa) (A := PA π) hx hb hst hown (exN_fit ha) exSup_fit (hts _ hl1) (hts _ hl2) hsa hat hgood hF.1.1 hF.1.2 hS (by rw [hml]; exact hls) d0 d3 e4 e7 e10 (fun x hx => by rw [htab g2] at hx; cases hx)
      (by have := hR.1; show 2 + 3 < _; omega) (by have := hR.2.1; show _ + (13 * (2 + 1) + 43) ≤ _; omega) (by rw [hR.2.2.1]; exact g4) (by rw [hR.2.2.2]; exact g5) hlocks hx9 hS.2.2 (h1 ▸ g4) (h2 ▸ g5)
end SMAIN
