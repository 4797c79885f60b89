/-! soundness: every run of the abstract machine is one of the machine -/
theorem flL_at (π : aP) : ∀ (vs : List Value) (i j : Nat) (v : Value), (flL vs)[j]? = some (some v) → (i + j, tV (Pad π) v) ∈ lv_args i (vs.map (tV (Pad π))) := by
  intro vs
  induction vs with
  | nil => intro i j v h; simp [flL] at h
  | cons u vs ih =>
    intro i j v h
    by_cases hc : u.category = 2
    · have h1 : flL (u :: vs) = some u :: none :: flL vs := by simp [flL, hc]
      rw [h1] at h
      show _ ∈ (i, tV (Pad π) u) :: lv_args (if (tV (Pad π) u).category = 2 then i + 2 else i + 1) (vs.map (tV (Pad π)))
      rw [tV_cat, if_pos hc]
      match j, h with
      | 0, h => cases h; exact List.mem_cons_self
      | 1, h => cases h
      | j + 2, h =>
        have h2 := ih (i + 2) j v h
        rw [show i + (j + 2) = i + 2 + j by omega]
        exact List.mem_cons_of_mem _ h2
    · have h1 : flL (u :: vs) = some u :: flL vs := by simp [flL, hc]
      rw [h1] at h
      show _ ∈ (i, tV (Pad π) u) :: lv_args (if (tV (Pad π) u).category = 2 then i + 2 else i + 1) (vs.map (tV (Pad π)))
      rw [tV_cat, if_neg hc]
      match j, h with
      | 0, h => cases h; exact List.mem_cons_self
      | j + 1, h =>
        have h2 := ih (i + 1) j v h
        rw [show i + (j + 1) = i + 1 + j by omega]
        exact List.mem_cons_of_mem _ h2
theorem flL_len (π : aP) (vs : List Value) : (lg_sl (vs.map (tV (Pad π)))).length = (flL vs).length := by
  induction vs with
  | nil => rfl
  | cons u vs ih =>
    have e1 : lg_sl ((u :: vs).map (tV (Pad π))) = (if u.category = 2 then [.val (tV (Pad π) u), .second] else [.val (tV (Pad π) u)]) ++ lg_sl (vs.map (tV (Pad π))) := by
      simp [lg_sl, tV_cat]
    have e2 : flL (u :: vs) = (if u.category = 2 then [some u, none] else [some u]) ++ flL vs := by simp [flL]
    rw [e1, e2, List.length_append, List.length_append, ih]
    split <;> rfl
theorem LH_ent {π : aP} {vs : List Value} {n : Nat} (h : (flL vs).length ≤ n) : LH π ((lg_sl (vs.map (tV (Pad π))) ++ List.replicate (n - (lg_sl (vs.map (tV (Pad π)))).length) Slot.unset).toArray) n (entL vs n) := by
  have h1 := lv_entry (vs.map (tV (Pad π))) (n := n) (by rw [flL_len]; exact h)
  refine ⟨h1.1, ?_, h1.2.1, fun j v hj => ?_⟩
  · unfold entL
    rw [List.length_append, List.length_replicate]
    omega
  · unfold entL at hj
    by_cases hl : j < (flL vs).length
    · rw [List.getElem?_append_left hl] at hj
      have h2 := flL_at π vs 0 j v hj
      rw [Nat.zero_add] at h2
      exact h1.2.2 _ h2
    · rw [List.getElem?_append_right (by omega), List.getElem?_replicate] at hj
      split at hj <;> cases hj
/-- places of a method -/
def monoB : List Nat → Bool
  | a :: b :: r => decide (a < b) && monoB (b :: r)
  | _ => true
theorem monoB_ok : ∀ (l : List Nat), monoB l = true → ∀ x y, x < y → y < l.length → l.getD x 0 < l.getD y 0 := by
  intro l
  induction l with
  | nil => intro _ x y _ hy; exact absurd hy (Nat.not_lt_zero _)
  | cons a r ih =>
    intro h x y hxy hy
    match r, h, ih with
    | [], h, ih => simp at hy; omega
    | b :: r, h, ih =>
      simp only [monoB, Bool.and_eq_true, decide_eq_true_eq] at h
      have ih' := ih h.2
      match x, y, hxy with
      | 0, y + 1, _ =>
        have h1 : (b :: r).getD 0 0 ≤ (b :: r).getD y 0 := by
          cases y with
          | zero => exact Nat.le_refl _
          | succ y => exact Nat.le_of_lt (ih' 0 (y + 1) (by omega) (by simp at hy ⊢; omega))
        simp only [List.getD_cons_zero, List.getD_cons_succ] at h1 ⊢
        omega
      | x + 1, y + 1, _ =>
        simp only [List.getD_cons_succ]
        exact ih' x y (by omega) (by simp at hy ⊢; omega)
def hndB (own : String) (pc : List Nat) (len : Nat) : List (Nat × Nat × Nat × String) → List (Nat × Nat × Nat × Nat) → Bool
  | [], [] => true
  | (a, b, h, nm) :: r, (sp, ep, hp, ct) :: r' => decide (a ≤ len) && decide (b ≤ len) && decide (sp = pc.getD a 0) && decide (ep = pc.getD b 0) && decide (hp = pc.getD h 0) && decide (ct ≠ 0) && decide (Cond.classLink own ct nm ∈ lw_tbl) && ((List.range 4).any fun j => decide (nm = exN j)) && hndB own pc len r r'
  | _, _ => false
theorem hndB_ok {own : String} {pc : List Nat} {len : Nat} : ∀ (hs : List (Nat × Nat × Nat × String)) (xs : List (Nat × Nat × Nat × Nat)), hndB own pc len hs xs = true → HndOK own (fun j => pc.getD j 0) len hs xs := by
  intro hs
  induction hs with
  | nil =>
    intro xs h
    cases xs with
    | nil => exact trivial
    | cons x r => simp [hndB] at h
  | cons q r ih =>
    intro xs h
    cases xs with
    | nil => simp [hndB] at h
    | cons x r' =>
      obtain ⟨a, b, h9, nm⟩ := q
      obtain ⟨sp, ep, hp, ct⟩ := x
      simp only [hndB, Bool.and_eq_true, decide_eq_true_eq] at h
      obtain ⟨⟨⟨⟨⟨⟨⟨⟨h1, h2⟩, h3⟩, h4⟩, h5⟩, h6⟩, h7⟩, h8⟩, h10⟩ := h
      obtain ⟨j, hj1, hj2⟩ := List.any_eq_true.mp h8
      exact ⟨h1, h2, h3, h4, h5, h6, List.mem_filter.mpr ⟨h7, rfl⟩, ⟨j, List.mem_range.mp hj1, of_decide_eq_true hj2⟩, ih r' h10⟩
def chP (m : Nat) : Bool := let pc := pcL.getD m []
  decide (pc.getD 0 0 = 0) && monoB pc && decide (pc.length = (codeOf m).length + 1) && hndB (yOf m).cls pc (codeOf m).length (infoOf m).2.2.2 (exwOf m)
theorem cp_all : (List.range 344).all chP = true := by decide +kernel
theorem cp_ok {m : Nat} (h : m < 344) : pcOf m 0 = 0 ∧ (∀ x y, x < y → y ≤ (codeOf m).length → pcOf m x < pcOf m y) ∧ HndOK (yOf m).cls (pcOf m) (codeOf m).length (infoOf m).2.2.2 (exwOf m) := by
  have h1 := List.all_eq_true.mp cp_all m (List.mem_range.mpr h)
  unfold chP at h1
  simp only [Bool.and_eq_true, decide_eq_true_eq] at h1
  obtain ⟨⟨⟨h2, h3⟩, h4⟩, h5⟩ := h1
  exact ⟨h2, fun x y hxy hy => monoB_ok _ h3 x y hxy (by omega), hndB_ok _ _ h5⟩
theorem kind_lt {mid : Nat} (h : kindOf mid = 0 ∨ kindOf mid = 1 ∨ kindOf mid = 2) : mid < 344 := by
  rcases Nat.lt_or_ge mid 344 with h1 | h1
  · exact h1
  · exfalso
    have h2 : kindL.length = 345 := by decide +kernel
    rcases Nat.lt_or_ge mid 345 with h3 | h3
    · have : mid = 344 := by omega
      subst this
      have h4 : kindOf 344 = 3 := by decide +kernel
      omega
    · have h4 : kindOf mid = 9 := by
        unfold kindOf
        rw [List.getD_eq_getElem?_getD, List.getElem?_eq_none (by omega)]
        rfl
      omega
theorem hnd_nil {own : String} {pcs : Nat → Nat} {len : Nat} {xs : List (Nat × Nat × Nat × Nat)} (h : HndOK own pcs len [] xs) : xs = [] := by
  cases xs with
  | nil => rfl
  | cons x r => exact h.elim
/-- a body without handlers; the class need not be plainly named, if no row stands in for the method -/
theorem bd_ofF {l : Launch} {y : MethodName} {ws ws' : List Cond} {rm : Room} {Pc : Array Value → State → Prop} {Qc : Array Value → State → Outcome → State → Prop} {XC : String → State → State → Prop} {mc ms : Nat} {free : Addr → Prop} {cc : ByteArray} {maxL : Nat} {ret : Option FieldType}
    (hy : plainFor y = true) (hw : ws = Cond.code y cc maxL ret :: ws')
    (body : ∀ p e s m args below meth c s₁, BodyLoose p l y (headSpec ws rm) cc maxL ret e s m args below meth c s₁ → c.maxLocals = maxL → (∀ x ∈ c.exceptionTable.toList, False) → Pc args s →
      W p l e (headSpec ws rm).room s m args below meth c s.heap [] 0 0 (vx_MQ below Qc XC args s mc ms free) (entryFrame m args maxL)) : vx_Met l y ws rm Pc Qc XC mc ms free := by
  have hin : ∀ (args : Array Value) (s : State), (headSpec ws rm).pre.before args s = true → (Cond.code y cc maxL ret).before args s = true := fun args s h => atoms_spec (ws := ws) h _ (by rw [hw]; exact List.mem_cons_self)
  refine MetFree.of_bodySF (code := cc) (maxLocals := maxL) (ret := ret) hy (fun args s m h hn => ?_) (fun p e s m args below meth c s₁ B hml hP _ => ?_)
  · obtain ⟨meth, c, h1, h2, h3, h4, h5, h6, -, -⟩ := Cond.code_spec hn (hin args s h)
    exact ⟨meth, c, h1, h2, h3, h4, h5, h6⟩
  · obtain ⟨meth9, c9, h1, h2, -, -, -, -, h7, -⟩ := Cond.code_spec B.named (hin args s B.pre)
    cases Option.some.inj (h1.symm.trans B.method)
    cases Option.some.inj (h2.symm.trans (Stand.of_body B).code)
    have h0 : s₁.heap = s.heap := by rw [B.state]; rfl
    obtain ⟨t, a1, o, b1, b2, b3⟩ := body p e s m args below meth c s₁ B hml (fun x hx => by rw [Array.isEmpty_iff.mp h7] at hx; cases hx) hP s₁ h0 (Stand.of_body B)
    exact ⟨t, o, a1, b1, b2, b3⟩
theorem ev_sound {l : Launch} {π : aP} (hst : l.stackTraces = false) :
    ∀ (d mid : Nat) (av : List Value) (w : aW) (Qr : Option Value → aW → Prop) (Qx : String → aW → Prop), Ev π.2.2.2.2 d mid av w Qr Qx → MA l π d mid av w Qr Qx := by
  intro d
  induction d with
  | zero => intro mid av w Qr Qx h; exact h.elim
  | succ d ih =>
    intro mid av w Qr Qx h
    obtain ⟨hmid, hfl, hEx⟩ := h
    obtain ⟨y1, y2, y3, y4, y5, y6, y7, y8⟩ := chY_ok (cy_all hmid)
    obtain ⟨hp0, hmono, hnd⟩ := cp_ok hmid
    have hcode := chM_ok (cm_all hmid)
    have main : ∀ (p : Program) (e : Env) (s : State) (m : MethodId) (args : Array Value) (below : List Frame) (meth : Method) (c : Code) (s₁ : State), BodyLoose p l (yOf mid) (headSpec (codeW mid :: WS) (rmD (d + 1) (mbOf mid).1 (mbOf mid).2)) (bytOf mid) (mlOf mid) (retOf mid) e s m args below meth c s₁ → c.maxLocals = mlOf mid → c.exceptionTable.toList = tableOf (exwOf mid) → PcA π av w args s →
        W p l e (headSpec (codeW mid :: WS) (rmD (d + 1) (mbOf mid).1 (mbOf mid).2)).room s m args below meth c s.heap [] 0 0 (vx_MQ below (QcA π Qr) (XcA π Qx) args s (mbOf mid).1 (mbOf mid).2 (PA π)) (entryFrame m args (mlOf mid)) := by
      intro p e s m args below meth c s₁ B hml htab hv
      obtain ⟨rfl, hP, hD, hK, hF, hN, hsz, hex⟩ := hv
      have hts0 := atoms_spec (ws := codeW mid :: WS) B.pre
      have hts : ∀ w ∈ WS, w.before (av.map (tV (Pad π))).toArray s = true := fun w hw => hts0 w (List.mem_cons_of_mem _ hw)
      have C : CTX π (yOf mid).cls (bytOf mid) (mlOf mid) w.1 p s m (av.map (tV (Pad π))).toArray c := ⟨B.exec, B.bytes, hml, findClass_of_methodNamed B.named, hts, hK, hF, hsz, hex⟩
      have hR : 8 + (d + 1) ≤ (rmD (d + 1) (mbOf mid).1 (mbOf mid).2).frames ∧ 200 + 60 * (d + 1) ≤ (rmD (d + 1) (mbOf mid).1 (mbOf mid).2).locals ∧ (rmD (d + 1) (mbOf mid).1 (mbOf mid).2).cells = (infoOf mid).1 ∧ (rmD (d + 1) (mbOf mid).1 (mbOf mid).2).slots = (infoOf mid).2.1 := ⟨Nat.le_refl _, Nat.le_refl _, rfl, rfl⟩
      have hlocks : meth.locks = false := B.notSynchronized
      have htab0 : (infoOf mid).2.2.2 = [] → c.exceptionTable.toList = [] := fun h0 => by
        rw [h0] at hnd
        rw [htab, hnd_nil hnd]
        rfl
      rw [lg_entry_eq]
      have h9 := so_body (e := e) (below := below) (QQ := vx_MQ below (QcA π Qr) (XcA π Qx) (av.map (tV (Pad π))).toArray s (mbOf mid).1 (mbOf mid).2 (PA π)) (ini := ((yOf mid).name == "<init>")) hR (fun mid9 hk9 => cy_all (kind_lt hk9)) ih (fun hi => by rw [(name_of_methodNamed B.named B.method).1]; simpa using hi) hcode hmono hnd htab
        (endR_met (d := d) (Qr := Qr) (Qx := Qx) B.exec B.bytes hlocks B.returns rfl rfl) (endT_met hst hR hlocks htab0 rfl rfl C (endN_met hst hR hlocks htab0 rfl rfl C)) (endX_met hlocks htab0 rfl rfl) C hEx (⟨hP, hD, va_S.rf, hN⟩ : InvW π w s s.heap []) (LH_ent hfl)
      rw [hp0] at h9
      exact h9
    by_cases hex : exwOf mid = []
    · refine bd_ofF (cc := bytOf mid) (maxL := mlOf mid) (ret := retOf mid) y4.1 (by rw [codeW_nil hex]) (fun p e s m args below meth c s₁ B hml ht hv => ?_)
      exact main p e s m args below meth c s₁ B hml (by
        rw [hex]
        cases hc : c.exceptionTable.toList with
        | nil => rfl
        | cons x r => exact (ht x (by rw [hc]; exact List.mem_cons_self)).elim) hv
    · refine vx_ofWH (cc := bytOf mid) (maxL := mlOf mid) (ret := retOf mid) (hh := exwOf mid) (y4.2.resolve_left hex) (by rw [codeW_cons hex]) (fun p e s m args below meth c s₁ B hml hv => ?_)
      have hcw : (Cond.codeWith (yOf mid) (bytOf mid) (mlOf mid) (retOf mid) (exwOf mid)).before args s = true := by
        rw [← codeW_cons hex]
        exact atoms_spec (ws := codeW mid :: WS) B.pre _ List.mem_cons_self
      exact main p e s m args below meth c s₁ B hml (vx_table (x := yOf mid) B hcw) hv
