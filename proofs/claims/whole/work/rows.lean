section
/-! ===== BEGIN words of one list among another's, by their places ===== -/
theorem goodIn_r {big : List Cond} (ws : List Cond) (ps : List Nat) (hp : ws = ps.filterMap (fun i => big[i]?)) (h : ws.all goodWord = true) : GoodIn big ws := by
  intro w hw
  have h1 := List.all_eq_true.mp h w hw
  rw [hp] at hw
  obtain ⟨i, -, hi⟩ := List.mem_filterMap.mp hw
  have hm : w ∈ big := by first | exact List.mem_of_getElem? hi | exact List.getElem?_mem hi
  exact ⟨hm, good_of_word h1⟩
theorem goodIn_app {big a b : List Cond} (ha : GoodIn big a) (hb : GoodIn big b) : GoodIn big (a ++ b) := fun w h => (List.mem_append.mp h).elim (ha w) (hb w)
theorem goodIn_ca {big a b : List Cond} {c : Cond} (ha : GoodIn big (c :: a)) (hb : GoodIn big b) : GoodIn big (c :: (a ++ b)) := fun w h => (List.mem_cons.mp h).elim (fun e => ha w (List.mem_cons.mpr (Or.inl e))) (fun h => (List.mem_append.mp h).elim (fun h => ha w (List.mem_cons.mpr (Or.inr h))) (hb w))
theorem goodIn_sub {big ws : List Cond} (hm : ∀ w ∈ ws, w ∈ big) (h : ws.all goodWord = true) : GoodIn big ws := fun w hw => ⟨hm w hw, good_of_word (List.all_eq_true.mp h w hw)⟩
/-! ===== END ===== -/
/-! ===== BEGIN exceptions that leave a method, and their catching by the caller (launches without stack traces) ===== -/
section VXA
/-! The laws vx_back, vx_callV, vx_callS, vx_callSW, vx_throw0, vx_throwS follow proofs of the library, with one case more: JvmDerived/Free/Laws.lean (Back.of_free), Shelf42/LK1.lean (callV, callS), Shelf/KitTraced.lean (throwNew0V, throwNewS). -/
/-- where a method has thrown q: the class by its name, the cell, what was written, the world -/
def vx_T (XC : String → State → State → Prop) (st : State) (q : Addr) (t : State) (mc ms : Nat) (free : Addr → Prop) : Prop :=
  ∃ (E : String) (ce : Cell) (L : List Loc), XC E st t ∧ t.heap[q]? = some ce ∧ ce.vm = .none ∧ st.vm.findClass E = some ce.cls ∧ st.WarmedH t.vm ∧ st.sameButNew ({ t with vm := st.vm } : State) L mc ms ∧ ∀ z ∈ L, free z.base
def vx_Q (Qc : Array Value → State → Outcome → State → Prop) (XC : String → State → State → Prop) (mc ms : Nat) (free : Addr → Prop) : Array Value → State → Outcome → State → Prop := fun a st o t =>
  (Qc a st o t ∧ ∃ L, FrameEnd st o t L mc ms ∧ ∀ q ∈ L, free q.base) ∨ ∃ q, o = .threw q ∧ vx_T XC st q t mc ms free
/-- a callee that returns or throws -/
def vx_Met (l : Launch) (y : MethodName) (ws : List Cond) (rm : Room) (Pc : Array Value → State → Prop) (Qc : Array Value → State → Outcome → State → Prop) (XC : String → State → State → Prop) (mc ms : Nat) (free : Addr → Prop) : Prop :=
  MetFree l y (headSpec ws rm) Pc (fun _ _ _ _ _ => True) (vx_Q Qc XC mc ms free)
def vx_Post (XC : String → State → State → Prop) (mc ms : Nat) (free : Addr → Prop) : Pt → Array Value → Addr → Pt → Prop := fun A a q B =>
  ∃ (g : JFrame) (mk : MethodId) (t : State) (L : List Loc) (E : String) (ce : Cell), B.U.heap = t.heap ∧ B.U.vm = t.vm ∧ XC E (A.U.calling g mk a) t ∧ t.heap[q]? = some ce ∧ ce.vm = .none ∧ A.U.vm.findClass E = some ce.cls ∧ B.locs = A.locs ++ L ∧ (∀ z ∈ L, free z.base) ∧ B.cells = A.cells + mc ∧ B.slots = A.slots + ms
def vx_Back (l : Launch) (R : Room) (p : Program) (e : Env) (below : List Frame) (s : State) (sargs : Array Value) (y : MethodName) (len W9 : Nat)
    (Pre : Pt → Array Value → Prop) (Post : Pt → Array Value → Option Value → Pt → Prop) (PostX : Pt → Array Value → Addr → Pt → Prop) : Prop :=
  ∀ (m : MethodId) (meth : Method) (c : Code) (A : Pt) (g : JFrame) (ig : Instr) (mk : MethodId) (a : Array Value),
    Stand p l e R s m sargs below meth c A.U A.locs A.cells A.slots → g.method = m → g.locals.size = c.maxLocals → decode c.code g.pc = .ok (ig, len) →
    2 * g.monitorRoom + (g.stack.map fun v => v.category).sum ≤ W9 → A.U.methodNamed? y = some mk → Pre A a →
    (∃ (v : Option Value) (B : Pt), Stand p l e R s m sargs below meth c B.U B.locs B.cells B.slots ∧ Post A a v B ∧
      Steps p.tables e below (doInvoke e (A.U.setTop g) [] mk a).1 (B.U.setTop { g with pc := g.pc + len, stack := v.toList ++ g.stack })) ∨
    (∃ (q : Addr) (B : Pt), Stand p l e R s m sargs below meth c B.U B.locs B.cells B.slots ∧ PostX A a q B ∧
      Steps p.tables e below (doInvoke e (A.U.setTop g) [] mk a).1 ((B.U.setTop g).pushFrame (.throwing q)))
section Payer
variable {l : Launch} {R : Room} {p : Program} {e : Env} {below : List Frame} {s : State} {sargs : Array Value} {y : MethodName} {len W9 : Nat}
theorem vx_back {ws : List Cond} {rm : Room} {Pc : Array Value → State → Prop} {Qc : Array Value → State → Outcome → State → Prop} {XC : String → State → State → Prop} {mc ms : Nat} {free : Addr → Prop} {bytes : ByteArray} {maxL : Nat} {ret : Option FieldType}
    (hM : vx_Met l y ws rm Pc Qc XC mc ms free) (hblind : FrameBlind Pc) (hrc : rm.cells = mc) (hrs : rm.slots = ms)
    (hframes : rm.frames + 1 ≤ R.frames) (hlocals : W9 + (maxL + 11) + rm.locals ≤ R.locals)
    (hws : ∀ w ∈ ws, ∀ a' U, s.WarmedH U.vm → w.before a' U = true) (hcode : Cond.code y bytes maxL ret ∈ ws) (hinit : ∀ a' U, s.WarmedH U.vm → (Cond.initialized y.cls).before a' U = true) :
    vx_Back l R p e below s sargs y len W9 (PreOf R mc ms Pc) (PostOf Qc mc ms free) (vx_Post XC mc ms free) := by
  intro m meth c A g ig mk a X hg hsize hdg hW hn hp
  have h1 : (headSpec ws rm).pre.before a A.U = true := atoms_intro fun w hw => hws w hw _ _ X.warmed
  have h2 : (Cond.code y bytes maxL ret).before a A.U = true := hws _ hcode _ _ X.warmed
  have h3 : (Cond.initialized y.cls).before a A.U = true := hinit _ _ X.warmed
  have h4 : A.cells + (headSpec ws rm).room.cells ≤ R.cells := by rw [show (headSpec ws rm).room.cells = mc from hrc]; exact hp.1
  have h5 : A.slots + (headSpec ws rm).room.slots ≤ R.slots := by rw [show (headSpec ws rm).room.slots = ms from hrs]; exact hp.2.1
  have hPc : Pc a (A.U.calling g mk a) := hblind _ _ _ _ hp.2.2
  obtain ⟨U, Ls, c0, s0⟩ := A
  dsimp only [Pt.U, Pt.locs, Pt.cells, Pt.slots] at h1 h2 h3 h4 h5 X hn hPc ⊢
  obtain ⟨methY, cY, hmY, hcY, -, hlY, -, -, -, -⟩ := Cond.code_spec hn h2
  obtain ⟨kY, hkY, -⟩ := className_of_methodNamed hn
  have hinitY : kY.init = .initialized := Cond.initialized_spec (findClass_of_methodNamed hn) hkY h3
  have h : At U g.method c below := by rw [hg]; exact X.here
  have hlocals9 : W9 + (maxL + 11) + (headSpec ws rm).room.locals ≤ R.locals := hlocals
  have happ : (headSpec ws rm).appliesLoose y e.platform (U.calling g mk a) = true :=
    Spec.appliesLoose_calling (g := g) h hdg hn hkY hinitY
      (X.room_calling (g := g) (R' := (headSpec ws rm).room) hsize hmY hcY hframes (by rw [hlY]; omega) h4 h5) h1
  obtain ⟨mid, hmid⟩ := h.above
  have hfr : (U.setTop g).frames = (.java g :: mid) ++ below := by rw [State.frames_setTop' g h.top, hmid]; rfl
  obtain ⟨o, s₂, hsteps, -, hend, hq⟩ := Steps.callFree hM p X.admits X.cas X.clock (acts := []) hfr happ hPc trivial
  have hq' : vx_Q Qc XC mc ms free a (U.calling g mk a) o s₂ := hq
  rw [State.frames_setTop' g h.top] at hend
  obtain ⟨g₀, hg0⟩ := Option.isSome_iff_exists.mp h.top
  obtain ⟨r, hr⟩ := State.topJava?_eq_some.mp hg0
  have hr' : (({ U with heap := s₂.heap, slotsUsed := s₂.slotsUsed } : State).setVm s₂.vm).frames = .java g₀ :: r := hr
  rcases hq' with ⟨hqc, L, hfe, hL⟩ | ⟨q, rfl, E, ce, L, hx, hce, hcv, hcl, hW₂, hsm, hL⟩
  · obtain ⟨⟨v, rfl⟩, hW₂, e2, q2, q3, q4, q5, q6⟩ := id hfe
    have e3 : s₂ = ({ (U.calling g mk a).setFrames s₂.frames with heap := s₂.heap, slotsUsed := s₂.slotsUsed } : State).setVm s₂.vm := by
      have : s₂ = ({ s₂ with vm := (U.calling g mk a).vm } : State).setVm s₂.vm := rfl
      rw [e2] at this
      exact this
    obtain ⟨c₂, i₂, len₂, hc₂, hd₂, hf₂⟩ := hend
    have hW' : U.WarmedH s₂.vm := hW₂
    have hcc : c₂ = c := by
      have h1 : s₂.code? g.method = U.code? g.method := by
        rw [State.code?_eq, State.code?_eq, hW'.alike.method?]
      exact Option.some.inj (hc₂.symm.trans (h1.trans h.code))
    subst hcc
    have hlen : len₂ = len := by rw [hdg] at hd₂; cases hd₂; rfl
    subst hlen
    have hs₂ : s₂ = (({ U with heap := s₂.heap, slotsUsed := s₂.slotsUsed } : State).setVm s₂.vm).setTop { g with pc := g.pc + len₂, stack := v.toList ++ g.stack } := by
      refine e3.trans ?_
      rw [hf₂, State.calling_eq h.top, State.setFrames_setFrames, State.setTop_of_frames _ hr', hr]
      rfl
    have hsame : U.sameButNew ({ U with heap := s₂.heap, slotsUsed := s₂.slotsUsed } : State) L mc ms := by
      refine ⟨?_, q2, q3, q4, q5, q6⟩
      obtain ⟨t, ht, -⟩ := State.frames_cons hr
      show ({ U with heap := s₂.heap, slotsUsed := s₂.slotsUsed } : State) = { U.setFrames U.frames with heap := s₂.heap, slotsUsed := s₂.slotsUsed }
      rw [State.setFrames_self ht]
    subst hg
    refine Or.inl ⟨v, ⟨(({ U with heap := s₂.heap, slotsUsed := s₂.slotsUsed } : State).setVm s₂.vm), Ls ++ L, c0 + mc, s0 + ms⟩,
      ⟨X.admits, X.cas, X.clock, X.frames, X.room, X.hears, X.method, X.code, (X.here.setHeapUsed s₂.heap s₂.slotsUsed).setVm hW'.alike, X.tail, State.WarmedH.trans X.warmed hW', X.limits, X.bytes, X.same.trans (hsame.setVm s.vm)⟩,
      ⟨g, mk, s₂, L, rfl, rfl, hqc, rfl, hL, rfl, rfl⟩, ?_⟩
    show Steps p.tables e below _ ((({ U with heap := s₂.heap, slotsUsed := s₂.slotsUsed } : State).setVm s₂.vm).setTop { g with pc := g.pc + len₂, stack := v.toList ++ g.stack })
    rw [← hs₂]
    exact hsteps
  · obtain ⟨e2, q2, q3, q4, q5, q6⟩ := id hsm
    have e3 : s₂ = ({ (U.calling g mk a).setFrames s₂.frames with heap := s₂.heap, slotsUsed := s₂.slotsUsed } : State).setVm s₂.vm := by
      have : s₂ = ({ s₂ with vm := (U.calling g mk a).vm } : State).setVm s₂.vm := rfl
      rw [e2] at this
      exact this
    have hf₂ : s₂.frames = .throwing q :: .java g :: U.frames.tail := hend
    have hW' : U.WarmedH s₂.vm := hW₂
    have hs₂ : s₂ = ((({ U with heap := s₂.heap, slotsUsed := s₂.slotsUsed } : State).setVm s₂.vm).setTop g).pushFrame (.throwing q) := by
      refine e3.trans ?_
      rw [hf₂, State.calling_eq h.top, State.setFrames_setFrames, State.pushFrame, State.frames_setTop _ hr', State.setTop_of_frames _ hr', State.setFrames_setFrames, hr]
      rfl
    have hsame : U.sameButNew ({ U with heap := s₂.heap, slotsUsed := s₂.slotsUsed } : State) L mc ms := by
      refine ⟨?_, q2, q3, q4, q5, q6⟩
      obtain ⟨t, ht, -⟩ := State.frames_cons hr
      show ({ U with heap := s₂.heap, slotsUsed := s₂.slotsUsed } : State) = { U.setFrames U.frames with heap := s₂.heap, slotsUsed := s₂.slotsUsed }
      rw [State.setFrames_self ht]
    subst hg
    refine Or.inr ⟨q, ⟨(({ U with heap := s₂.heap, slotsUsed := s₂.slotsUsed } : State).setVm s₂.vm), Ls ++ L, c0 + mc, s0 + ms⟩,
      ⟨X.admits, X.cas, X.clock, X.frames, X.room, X.hears, X.method, X.code, (X.here.setHeapUsed s₂.heap s₂.slotsUsed).setVm hW'.alike, X.tail, State.WarmedH.trans X.warmed hW', X.limits, X.bytes, X.same.trans (hsame.setVm s.vm)⟩,
      ⟨g, mk, s₂, L, E, ce, rfl, rfl, hx, hce, hcv, hcl, rfl, hL, rfl, rfl⟩, ?_⟩
    show Steps p.tables e below _ (((({ U with heap := s₂.heap, slotsUsed := s₂.slotsUsed } : State).setVm s₂.vm).setTop g).pushFrame (.throwing q))
    rw [← hs₂]
    exact hsteps
end Payer
section Calls
variable {p : Program} {l : Launch} {e : Env} {R : Room} {s : State} {m : MethodId} {args : Array Value} {below : List Frame} {meth : Method} {c : Code} {T : State} {locs : List Loc} {cells slots : Nat}
theorem vx_callV (X : Stand p l e R s m args below meth c T locs cells slots) (hexec : p.tables.exec = Jvm.exec) {own C : String} {index : Nat} {y : MethodName} {bytes : ByteArray} {maxL : Nat} {ret : Option FieldType}
    (hown : s.vm.findClass own = some m.cls) (hlink : (Cond.methodLink own index y).before args s = true) (hinst : (Cond.instanceMethod y).before args s = true) (hsel : (Cond.selects C y y).before args s = true)
    (hcode : (Cond.code y bytes maxL ret).before args s = true) (hy : y.cls ≠ "java/lang/invoke/MethodHandle" ∧ y.cls ≠ "java/lang/invoke/VarHandle")
    {W9 : Nat} {Pre : Pt → Array Value → Prop} {Post : Pt → Array Value → Option Value → Pt → Prop} {PostX : Pt → Array Value → Addr → Pt → Prop} (hK : vx_Back l R p e below s args y 3 W9 Pre Post PostX)
    {b : Addr} {cellB : Cell} (hcell : T.heap[b]? = some cellB) (hobj : cellB.vm.isStatics = false) (hcls : s.vm.findClass C = some cellB.cls)
    {g : JFrame} (hg : g.method = m) (hsize : g.locals.size = c.maxLocals) {argsL rest : List Value} (hlen : ∀ sig, parseMethodDescriptor y.desc = some sig → argsL.length = sig.parameters.length)
    (hstack : g.stack = argsL.reverse ++ .ref b :: rest) (hW : 2 * g.monitorRoom + (rest.map fun v => v.category).sum ≤ W9) (hdg : decode c.code g.pc = .ok (.invokevirtual index, 3))
    (hpre : ∀ vm₁, s.WarmedH vm₁ → Pre ⟨T.setVm vm₁, locs, cells, slots⟩ (Value.ref b :: argsL).toArray) :
    (∃ (v : Option Value) (vm₁ : Vm) (B : Pt), s.WarmedH vm₁ ∧ Stand p l e R s m args below meth c B.U B.locs B.cells B.slots ∧ Post ⟨T.setVm vm₁, locs, cells, slots⟩ (Value.ref b :: argsL).toArray v B ∧
      ∀ target, Steps p.tables e below (B.U.setTop { g with pc := g.pc + 3, stack := v.toList ++ rest }) target → Steps p.tables e below (T.setTop g) target) ∨
    (∃ (q : Addr) (vm₁ : Vm) (B : Pt), s.WarmedH vm₁ ∧ Stand p l e R s m args below meth c B.U B.locs B.cells B.slots ∧ PostX ⟨T.setVm vm₁, locs, cells, slots⟩ (Value.ref b :: argsL).toArray q B ∧
      Steps p.tables e below (T.setTop g) ((B.U.setTop { g with stack := rest }).pushFrame (.throwing q))) := by
  obtain ⟨mk, methM, hnamed, hmethM, hstM, habM⟩ := Cond.instanceMethod_spec hinst
  obtain ⟨methM', cM, hmethM', -, -, -, -, -, -, hsigM⟩ := Cond.code_spec hnamed hcode
  cases hmethM.symm.trans hmethM'
  obtain ⟨c2, r2, m2, q1, q2, q3, q4, kP, hkP, hkPi⟩ := Cond.selects_spec hsel
  cases hcls.symm.trans q1
  cases (State.methodFound?_of_named hnamed hy).symm.trans q2
  cases hnamed.symm.trans q3
  have hselP : selectMethod e.platform s.vm cellB.cls mk = .method mk := by rw [Launch.admits_selectMethod X.admits]; exact q4
  obtain ⟨vm₁, X₁, hstep₁⟩ := X.invokevirtual hexec hown hlink hnamed hmethM hstM hkP hkPi hy (a := b) (cell := cellB) hcell
    (fun z h => by rw [h] at hobj; cases hobj) hselP hmethM habM hkP hkPi (g := g) hg (argsL := argsL) (rest := rest) (hlen _ hsigM) hstack hdg
  rcases hK m meth c ⟨T.setVm vm₁, locs, cells, slots⟩ { g with stack := rest } (.invokevirtual index) mk (Value.ref b :: argsL).toArray X₁ hg hsize hdg hW (X₁.named hnamed) (hpre vm₁ X₁.warmed) with ⟨v, B, X', hpost, hsteps⟩ | ⟨q, B, X', hpost, hsteps⟩
  · exact Or.inl ⟨v, vm₁, B, X₁.warmed, X', hpost, fun target h => hstep₁ _ fun acts => by rw [doInvoke_state]; exact hsteps.trans h⟩
  · exact Or.inr ⟨q, vm₁, B, X₁.warmed, X', hpost, hstep₁ _ fun acts => by rw [doInvoke_state]; exact hsteps⟩
theorem vx_callS (X : Stand p l e R s m args below meth c T locs cells slots) (hexec : p.tables.exec = Jvm.exec) {own : String} {index : Nat} {y : MethodName} {bytes : ByteArray} {maxL : Nat} {ret : Option FieldType}
    (hown : s.vm.findClass own = some m.cls) (hlink : (Cond.methodLink own index y).before args s = true) (hstat : (Cond.static y).before args s = true) (hinit : (Cond.initialized y.cls).before args s = true)
    (hcode : (Cond.code y bytes maxL ret).before args s = true) (hy : y.cls ≠ "java/lang/invoke/MethodHandle" ∧ y.cls ≠ "java/lang/invoke/VarHandle")
    {W9 : Nat} {Pre : Pt → Array Value → Prop} {Post : Pt → Array Value → Option Value → Pt → Prop} {PostX : Pt → Array Value → Addr → Pt → Prop} (hK : vx_Back l R p e below s args y 3 W9 Pre Post PostX)
    {g : JFrame} (hg : g.method = m) (hsize : g.locals.size = c.maxLocals) {argsL rest : List Value} (hlen : ∀ sig, parseMethodDescriptor y.desc = some sig → argsL.length = sig.parameters.length)
    (hstack : g.stack = argsL.reverse ++ rest) (hW : 2 * g.monitorRoom + (rest.map fun v => v.category).sum ≤ W9) (hdg : decode c.code g.pc = .ok (.invokestatic index, 3))
    (hpre : ∀ vm₁, s.WarmedH vm₁ → Pre ⟨T.setVm vm₁, locs, cells, slots⟩ argsL.toArray) :
    (∃ (v : Option Value) (vm₁ : Vm) (B : Pt), s.WarmedH vm₁ ∧ Stand p l e R s m args below meth c B.U B.locs B.cells B.slots ∧ Post ⟨T.setVm vm₁, locs, cells, slots⟩ argsL.toArray v B ∧
      ∀ target, Steps p.tables e below (B.U.setTop { g with pc := g.pc + 3, stack := v.toList ++ rest }) target → Steps p.tables e below (T.setTop g) target) ∨
    (∃ (q : Addr) (vm₁ : Vm) (B : Pt), s.WarmedH vm₁ ∧ Stand p l e R s m args below meth c B.U B.locs B.cells B.slots ∧ PostX ⟨T.setVm vm₁, locs, cells, slots⟩ argsL.toArray q B ∧
      Steps p.tables e below (T.setTop g) ((B.U.setTop { g with stack := rest }).pushFrame (.throwing q))) := by
  obtain ⟨mk, hnamed⟩ := Cond.code_named hcode
  obtain ⟨methM, cM, hmethM, -, -, -, -, -, -, hsigM⟩ := Cond.code_spec hnamed hcode
  have hstatic : methM.isStatic = true := Cond.static_spec hnamed hmethM hstat
  obtain ⟨kP, hkP, -⟩ := className_of_methodNamed hnamed
  have hinitP : kP.init = .initialized := Cond.initialized_spec (findClass_of_methodNamed hnamed) hkP hinit
  obtain ⟨vm₁, X₁, hstep₁⟩ := X.invokestatic hexec hown hlink hnamed hmethM hstatic hkP hinitP hy (g := g) hg (argsL := argsL) (rest := rest) (hlen _ hsigM) hstack hdg
  rcases hK m meth c ⟨T.setVm vm₁, locs, cells, slots⟩ { g with stack := rest } (.invokestatic index) mk argsL.toArray X₁ hg hsize hdg hW (X₁.named hnamed) (hpre vm₁ X₁.warmed) with ⟨v, B, X', hpost, hsteps⟩ | ⟨q, B, X', hpost, hsteps⟩
  · exact Or.inl ⟨v, vm₁, B, X₁.warmed, X', hpost, fun target h => hstep₁ _ fun acts => by rw [doInvoke_state]; exact hsteps.trans h⟩
  · exact Or.inr ⟨q, vm₁, B, X₁.warmed, X', hpost, hstep₁ _ fun acts => by rw [doInvoke_state]; exact hsteps⟩
end Calls
theorem vx_cls {s : State} {T : State} {vm₁ : Vm} {E : String} {k : ClassId} (hW : s.WarmedH vm₁) (h : (T.setVm vm₁).vm.findClass E = some k) : s.vm.findClass E = some k := by
  have h1 : vm₁.findClass E = some k := h
  rw [hW.alike.findClass] at h1
  exact h1
/-- the method's frame g, with q thrown over it -/
def vx_W (p : Program) (l : Launch) (e : Env) (R : Room) (s : State) (m : MethodId) (args : Array Value) (below : List Frame) (meth : Method) (c : Code) (H : Heap) (locs : List Loc) (cells slots : Nat) (Q : State → Prop) (g : JFrame) (q : Addr) : Prop :=
  ∀ T : State, T.heap = H → Stand p l e R s m args below meth c T locs cells slots → ∃ t, Steps p.tables e below ((T.setTop g).pushFrame (.throwing q)) t ∧ Q t
def vx_Run (p : Program) (l : Launch) (e : Env) (R : Room) (s : State) (m : MethodId) (args : Array Value) (below : List Frame) (meth : Method) (c : Code) (H : Heap) (locs : List Loc) (cells slots mc ms : Nat) (g : JFrame) (rest : List Value) (Qa : State → Outcome → State → Prop) (XC : String → State → State → Prop) (free : Addr → Prop) : Prop :=
  ∀ T : State, T.heap = H → Stand p l e R s m args below meth c T locs cells slots →
    (∃ (v : Option Value) (st₀ t T' : State) (L : List Loc), st₀.heap = H ∧ Stand p l e R s m args below meth c T' (locs ++ L) (cells + mc) (slots + ms) ∧ (∀ q ∈ L, free q.base) ∧ T'.heap = t.heap ∧ T'.vm = t.vm ∧ Qa st₀ (.returned v) t ∧
      Goes p e below T g T' { g with pc := g.pc + 3, stack := v.toList ++ rest }) ∨
    (∃ (q : Addr) (st₀ t T' : State) (L : List Loc) (E : String) (ce : Cell), st₀.heap = H ∧ Stand p l e R s m args below meth c T' (locs ++ L) (cells + mc) (slots + ms) ∧ (∀ z ∈ L, free z.base) ∧ T'.heap = t.heap ∧ T'.vm = t.vm ∧ XC E st₀ t ∧ t.heap[q]? = some ce ∧ ce.vm = .none ∧ s.vm.findClass E = some ce.cls ∧
      Steps p.tables e below (T.setTop g) ((T'.setTop { g with stack := rest }).pushFrame (.throwing q)))
def vx_X {S : Type} (px : S → Prop) (B : String → S → State → Prop) (A : Nat → Prop) : String → State → State → Prop := fun E st t => ∃ u : S, px u ∧ B E u t ∧ va_F A st t
section Runs
variable {p : Program} {l : Launch} {e : Env} {R : Room} {s : State} {m : MethodId} {args : Array Value} {below : List Frame} {meth : Method} {c : Code} {H : Heap} {locs : List Loc} {cells slots : Nat}
variable {y : MethodName} {bytes cc : ByteArray} {maxL nL mc ms n index : Nat} {ret : Option FieldType} {ws : List Cond} {rm : Room} {Pc : Array Value → State → Prop} {Qc : Array Value → State → Outcome → State → Prop} {XC : String → State → State → Prop} {free : Addr → Prop} {Ts : List Cond} {own C : String} {b : Addr} {As rest : List Value} {g : JFrame}
theorem vx_callBack (cb : CallB R s args own index y bytes maxL ret ws rm mc ms n) (hM : vx_Met l y ws rm Pc Qc XC mc ms free) (hbl : FrameBlind Pc) : vx_Back l R p e below s args y 3 8 (PreOf R mc ms Pc) (PostOf Qc mc ms free) (vx_Post XC mc ms free) := by
  obtain ⟨hrc, hrs, hfr, hlo, hws, hcw, -, hini, -⟩ := cb
  exact vx_back (bytes := bytes) (maxL := maxL) (ret := ret) hM hbl hrc hrs hfr hlo hws hcw (fun a' U hW => word_at hW (Or.inl (by first | rfl | simp [Cond.onTables, Cond.keeps, Cond.steady])) hini)
theorem vx_runV (S : CallFix p m c cc nL s args Ts own) (hM : vx_Met l y ws rm Pc Qc XC mc ms free) (cw : CallW R s args own C index y bytes maxL ret ws rm mc ms n) (hp : PreV s H C b Pc As)
    (hg : g.method = m) (hn : As.length = n) (hsize : g.locals.size = nL) (hstack : g.stack = As.reverse ++ .ref b :: rest) (hW : 2 * g.monitorRoom + (rest.map fun v => v.category).sum ≤ 8) (hdg : decode cc g.pc = .ok (.invokevirtual index, 3)) (hf : cells + mc ≤ R.cells ∧ slots + ms ≤ R.slots) :
    vx_Run p l e R s m args below meth c H locs cells slots mc ms g rest (Qc (Value.ref b :: As).toArray) XC free := by
  have hK : vx_Back l R p e below s args y 3 8 (PreOf R mc ms Pc) (PostOf Qc mc ms free) (vx_Post XC mc ms free) := vx_callBack cw.1 hM hp.1
  obtain ⟨⟨-, -, -, -, -, -, hcode, -, hy, hlen, hl⟩, hin, hse⟩ := cw
  obtain ⟨hx, hb, hml, ho, -⟩ := S
  obtain ⟨-, ⟨cellB, hcB, hoB, hclB⟩, hPc⟩ := hp
  intro T hT X
  rcases vx_callV X hx (C := C) (bytes := bytes) (maxL := maxL) (ret := ret) ho hl hin hse hcode hy hK (by rw [hT]; exact hcB) hoB hclB hg (hsize.trans hml.symm) (argsL := As) (rest := rest) (fun sig h => hn.trans (hlen sig h)) hstack hW (by rw [hb]; exact hdg)
    (fun vm₁ hW₁ => ⟨hf.1, hf.2, hPc (T.setVm vm₁) hT hW₁⟩) with ⟨v, vm₁, ⟨U', l2, c2, s2⟩, hW₁, X', ⟨g', mk, t, L, e1, e2, hq, h1, hL, h2, h3⟩, st⟩ | ⟨q, vm₁, ⟨U', l2, c2, s2⟩, hW₁, X', ⟨g', mk, t, L, E, ce, e1, e2, hq, hce, hcv, hcl, h1, hL, h2, h3⟩, st⟩
  · dsimp only [Pt.U, Pt.locs, Pt.cells, Pt.slots] at X' e1 e2 h1 h2 h3 st
    subst h1; subst h2; subst h3
    exact Or.inl ⟨v, (T.setVm vm₁).calling g' mk (Value.ref b :: As).toArray, t, U', L, hT, X', hL, e1, e2, hq, st⟩
  · dsimp only [Pt.U, Pt.locs, Pt.cells, Pt.slots] at X' e1 e2 h1 h2 h3 st hcl
    subst h1; subst h2; subst h3
    exact Or.inr ⟨q, (T.setVm vm₁).calling g' mk (Value.ref b :: As).toArray, t, U', L, E, ce, hT, X', hL, e1, e2, hq, hce, hcv, vx_cls hW₁ hcl, st⟩
theorem vx_runS (S : CallFix p m c cc nL s args Ts own) (hM : vx_Met l y ws rm Pc Qc XC mc ms free) (cw : CallB R s args own index y bytes maxL ret ws rm mc ms n ∧ (Cond.static y).before args s = true) (hp : PreS s H Pc As)
    (hg : g.method = m) (hn : As.length = n) (hsize : g.locals.size = nL) (hstack : g.stack = As.reverse ++ rest) (hW : 2 * g.monitorRoom + (rest.map fun v => v.category).sum ≤ 8) (hdg : decode cc g.pc = .ok (.invokestatic index, 3)) (hf : cells + mc ≤ R.cells ∧ slots + ms ≤ R.slots) :
    vx_Run p l e R s m args below meth c H locs cells slots mc ms g rest (Qc As.toArray) XC free := by
  have hK : vx_Back l R p e below s args y 3 8 (PreOf R mc ms Pc) (PostOf Qc mc ms free) (vx_Post XC mc ms free) := vx_callBack cw.1 hM hp.1
  obtain ⟨⟨-, -, -, -, -, -, hcode, hini, hy, hlen, hl⟩, hstt⟩ := cw
  obtain ⟨hx, hb, hml, ho, -⟩ := S
  intro T hT X
  rcases vx_callS X hx (bytes := bytes) (maxL := maxL) (ret := ret) ho hl hstt hini hcode hy hK hg (hsize.trans hml.symm) (argsL := As) (rest := rest) (fun sig h => hn.trans (hlen sig h)) hstack hW (by rw [hb]; exact hdg)
    (fun vm₁ hW₁ => ⟨hf.1, hf.2, hp.2 (T.setVm vm₁) hT hW₁⟩) with ⟨v, vm₁, ⟨U', l2, c2, s2⟩, hW₁, X', ⟨g', mk, t, L, e1, e2, hq, h1, hL, h2, h3⟩, st⟩ | ⟨q, vm₁, ⟨U', l2, c2, s2⟩, hW₁, X', ⟨g', mk, t, L, E, ce, e1, e2, hq, hce, hcv, hcl, h1, hL, h2, h3⟩, st⟩
  · dsimp only [Pt.U, Pt.locs, Pt.cells, Pt.slots] at X' e1 e2 h1 h2 h3 st
    subst h1; subst h2; subst h3
    exact Or.inl ⟨v, (T.setVm vm₁).calling g' mk As.toArray, t, U', L, hT, X', hL, e1, e2, hq, st⟩
  · dsimp only [Pt.U, Pt.locs, Pt.cells, Pt.slots] at X' e1 e2 h1 h2 h3 st hcl
    subst h1; subst h2; subst h3
    exact Or.inr ⟨q, (T.setVm vm₁).calling g' mk As.toArray, t, U', L, E, ce, hT, X', hL, e1, e2, hq, hce, hcv, vx_cls hW₁ hcl, st⟩
end Runs
section Rows
variable {p : Program} {l : Launch} {e : Env} {R : Room} {s : State} {m : MethodId} {args : Array Value} {below : List Frame} {meth : Method} {c : Code} {H : Heap} {locs : List Loc} {cells slots : Nat} {Q : State → Prop}
variable {mc ms : Nat} {free : Addr → Prop} {A0 A1 : Nat → Prop} {H0 : Heap} {a : Array Value} {pc : Nat} {ls : Array Slot} {st0 rest : List Value}
theorem vx_keep {st₀ t T' : State} {L : List Loc} (h0 : st₀.heap = H) (e1 : T'.heap = t.heap) (hS : va_S A0 H0 H locs) (hA : ∀ q, q < H.size → A1 q → A0 q) (hf : ∀ q, free q → A0 q) (hL : ∀ q ∈ L, free q.base) (hF : va_F A1 st₀ t) :
    H.size ≤ T'.heap.size ∧ (∀ q : Nat, q < H.size → ¬ A1 q → T'.heap[q]? = H[q]?) ∧ va_S A0 H0 T'.heap (locs ++ L) := by
  obtain ⟨hz, hk⟩ := hF
  rw [h0] at hz hk
  exact ⟨by rw [e1]; exact hz, fun q h1 h2 => by rw [e1]; exact hk q h1 h2,
    ⟨Nat.le_trans hS.1 (by rw [e1]; exact hz), fun q h1 h2 => by rw [e1, hk q (Nat.lt_of_lt_of_le h1 hS.1) (fun z => h2 (hA q (Nat.lt_of_lt_of_le h1 hS.1) z))]; exact hS.2.1 q h1 h2, fun q hq => by
      rcases List.mem_append.mp hq with h | h
      · exact hS.2.2 q h
      · exact hf _ (hL q h)⟩⟩
theorem vx_calli {S SX : Type} {post : Int32 → S → Prop} {px : SX → Prop} {B : S → State → Prop} {BX : String → SX → State → Prop} {AX : Nat → Prop} (hr : vx_Run p l e R s m args below meth c H locs cells slots mc ms (F0 m pc ls st0) rest (va_Qi post B A1 a) (vx_X px BX AX) free) (hS : va_S A0 H0 H locs) (hA : ∀ q, q < H.size → A1 q → A0 q) (hf : ∀ q, free q → A0 q) (hAX : ∀ q, q < H.size → AX q → A0 q)
    (kx : ∀ (E : String) (ce : Cell) (q9 : Addr) (u : SX) (t : State) (H1 : Heap) (locs1 : List Loc), t.heap = H1 → s.vm.Alike t.vm → px u → BX E u t → H.size ≤ H1.size → (∀ q : Nat, q < H.size → ¬ AX q → H1[q]? = H[q]?) → va_S A0 H0 H1 locs1 → H1[q9]? = some ce → ce.vm = .none → s.vm.findClass E = some ce.cls → vx_W p l e R s m args below meth c H1 locs1 (cells + mc) (slots + ms) Q (F0 m pc ls rest) q9)
    (kk : ∀ (r : Int32) (u : S) (t : State) (H1 : Heap) (locs1 : List Loc), t.heap = H1 → s.vm.Alike t.vm → post r u → B u t → H.size ≤ H1.size → (∀ q : Nat, q < H.size → ¬ A1 q → H1[q]? = H[q]?) → va_S A0 H0 H1 locs1 → W p l e R s m args below meth c H1 locs1 (cells + mc) (slots + ms) Q (F0 m (pc + 3) ls (.int r :: rest))) : W p l e R s m args below meth c H locs cells slots Q (F0 m pc ls st0) := by
  intro T hT X
  rcases hr T hT X with ⟨v, st₀, t, T', L, h0, X', hL, e1, e2, ⟨⟨r, u, hv, hp, hb⟩, hF⟩, st⟩ | ⟨q, st₀, t, T', L, E, ce, h0, X', hL, e1, e2, ⟨u, hp, hb, hF⟩, hce, hcv, hcl, st⟩
  · cases hv
    obtain ⟨k1, k2, k3⟩ := vx_keep h0 e1 hS hA hf hL hF
    obtain ⟨t2, a1, b1⟩ := kk r u t T'.heap (locs ++ L) e1.symm (by rw [← e2]; exact X'.warmed.alike) hp hb k1 k2 k3 T' rfl X'
    exact ⟨t2, st t2 a1, b1⟩
  · obtain ⟨k1, k2, k3⟩ := vx_keep h0 e1 hS hAX hf hL hF
    obtain ⟨t2, a1, b1⟩ := kx E ce q u t T'.heap (locs ++ L) e1.symm (by rw [← e2]; exact X'.warmed.alike) hp hb k1 k2 k3 (by rw [e1]; exact hce) hcv hcl T' rfl X'
    exact ⟨t2, st.trans a1, b1⟩
theorem vx_calll {S SX : Type} {post : Int64 → S → Prop} {px : SX → Prop} {B : S → State → Prop} {BX : String → SX → State → Prop} {AX : Nat → Prop} (hr : vx_Run p l e R s m args below meth c H locs cells slots mc ms (F0 m pc ls st0) rest (va_Ql post B A1 a) (vx_X px BX AX) free) (hS : va_S A0 H0 H locs) (hA : ∀ q, q < H.size → A1 q → A0 q) (hf : ∀ q, free q → A0 q) (hAX : ∀ q, q < H.size → AX q → A0 q)
    (kx : ∀ (E : String) (ce : Cell) (q9 : Addr) (u : SX) (t : State) (H1 : Heap) (locs1 : List Loc), t.heap = H1 → s.vm.Alike t.vm → px u → BX E u t → H.size ≤ H1.size → (∀ q : Nat, q < H.size → ¬ AX q → H1[q]? = H[q]?) → va_S A0 H0 H1 locs1 → H1[q9]? = some ce → ce.vm = .none → s.vm.findClass E = some ce.cls → vx_W p l e R s m args below meth c H1 locs1 (cells + mc) (slots + ms) Q (F0 m pc ls rest) q9)
    (kk : ∀ (r : Int64) (u : S) (t : State) (H1 : Heap) (locs1 : List Loc), t.heap = H1 → s.vm.Alike t.vm → post r u → B u t → H.size ≤ H1.size → (∀ q : Nat, q < H.size → ¬ A1 q → H1[q]? = H[q]?) → va_S A0 H0 H1 locs1 → W p l e R s m args below meth c H1 locs1 (cells + mc) (slots + ms) Q (F0 m (pc + 3) ls (.long r :: rest))) : W p l e R s m args below meth c H locs cells slots Q (F0 m pc ls st0) := by
  intro T hT X
  rcases hr T hT X with ⟨v, st₀, t, T', L, h0, X', hL, e1, e2, ⟨⟨r, u, hv, hp, hb⟩, hF⟩, st⟩ | ⟨q, st₀, t, T', L, E, ce, h0, X', hL, e1, e2, ⟨u, hp, hb, hF⟩, hce, hcv, hcl, st⟩
  · cases hv
    obtain ⟨k1, k2, k3⟩ := vx_keep h0 e1 hS hA hf hL hF
    obtain ⟨t2, a1, b1⟩ := kk r u t T'.heap (locs ++ L) e1.symm (by rw [← e2]; exact X'.warmed.alike) hp hb k1 k2 k3 T' rfl X'
    exact ⟨t2, st t2 a1, b1⟩
  · obtain ⟨k1, k2, k3⟩ := vx_keep h0 e1 hS hAX hf hL hF
    obtain ⟨t2, a1, b1⟩ := kx E ce q u t T'.heap (locs ++ L) e1.symm (by rw [← e2]; exact X'.warmed.alike) hp hb k1 k2 k3 (by rw [e1]; exact hce) hcv hcl T' rfl X'
    exact ⟨t2, st.trans a1, b1⟩
theorem vx_callf {S SX : Type} {post : UInt32 → S → Prop} {px : SX → Prop} {B : S → State → Prop} {BX : String → SX → State → Prop} {AX : Nat → Prop} (hr : vx_Run p l e R s m args below meth c H locs cells slots mc ms (F0 m pc ls st0) rest (va_Qf post B A1 a) (vx_X px BX AX) free) (hS : va_S A0 H0 H locs) (hA : ∀ q, q < H.size → A1 q → A0 q) (hf : ∀ q, free q → A0 q) (hAX : ∀ q, q < H.size → AX q → A0 q)
    (kx : ∀ (E : String) (ce : Cell) (q9 : Addr) (u : SX) (t : State) (H1 : Heap) (locs1 : List Loc), t.heap = H1 → s.vm.Alike t.vm → px u → BX E u t → H.size ≤ H1.size → (∀ q : Nat, q < H.size → ¬ AX q → H1[q]? = H[q]?) → va_S A0 H0 H1 locs1 → H1[q9]? = some ce → ce.vm = .none → s.vm.findClass E = some ce.cls → vx_W p l e R s m args below meth c H1 locs1 (cells + mc) (slots + ms) Q (F0 m pc ls rest) q9)
    (kk : ∀ (r : UInt32) (u : S) (t : State) (H1 : Heap) (locs1 : List Loc), t.heap = H1 → s.vm.Alike t.vm → post r u → B u t → H.size ≤ H1.size → (∀ q : Nat, q < H.size → ¬ A1 q → H1[q]? = H[q]?) → va_S A0 H0 H1 locs1 → W p l e R s m args below meth c H1 locs1 (cells + mc) (slots + ms) Q (F0 m (pc + 3) ls (.float r :: rest))) : W p l e R s m args below meth c H locs cells slots Q (F0 m pc ls st0) := by
  intro T hT X
  rcases hr T hT X with ⟨v, st₀, t, T', L, h0, X', hL, e1, e2, ⟨⟨r, u, hv, hp, hb⟩, hF⟩, st⟩ | ⟨q, st₀, t, T', L, E, ce, h0, X', hL, e1, e2, ⟨u, hp, hb, hF⟩, hce, hcv, hcl, st⟩
  · cases hv
    obtain ⟨k1, k2, k3⟩ := vx_keep h0 e1 hS hA hf hL hF
    obtain ⟨t2, a1, b1⟩ := kk r u t T'.heap (locs ++ L) e1.symm (by rw [← e2]; exact X'.warmed.alike) hp hb k1 k2 k3 T' rfl X'
    exact ⟨t2, st t2 a1, b1⟩
  · obtain ⟨k1, k2, k3⟩ := vx_keep h0 e1 hS hAX hf hL hF
    obtain ⟨t2, a1, b1⟩ := kx E ce q u t T'.heap (locs ++ L) e1.symm (by rw [← e2]; exact X'.warmed.alike) hp hb k1 k2 k3 (by rw [e1]; exact hce) hcv hcl T' rfl X'
    exact ⟨t2, st.trans a1, b1⟩
theorem vx_calld {S SX : Type} {post : UInt64 → S → Prop} {px : SX → Prop} {B : S → State → Prop} {BX : String → SX → State → Prop} {AX : Nat → Prop} (hr : vx_Run p l e R s m args below meth c H locs cells slots mc ms (F0 m pc ls st0) rest (va_Qd post B A1 a) (vx_X px BX AX) free) (hS : va_S A0 H0 H locs) (hA : ∀ q, q < H.size → A1 q → A0 q) (hf : ∀ q, free q → A0 q) (hAX : ∀ q, q < H.size → AX q → A0 q)
    (kx : ∀ (E : String) (ce : Cell) (q9 : Addr) (u : SX) (t : State) (H1 : Heap) (locs1 : List Loc), t.heap = H1 → s.vm.Alike t.vm → px u → BX E u t → H.size ≤ H1.size → (∀ q : Nat, q < H.size → ¬ AX q → H1[q]? = H[q]?) → va_S A0 H0 H1 locs1 → H1[q9]? = some ce → ce.vm = .none → s.vm.findClass E = some ce.cls → vx_W p l e R s m args below meth c H1 locs1 (cells + mc) (slots + ms) Q (F0 m pc ls rest) q9)
    (kk : ∀ (r : UInt64) (u : S) (t : State) (H1 : Heap) (locs1 : List Loc), t.heap = H1 → s.vm.Alike t.vm → post r u → B u t → H.size ≤ H1.size → (∀ q : Nat, q < H.size → ¬ A1 q → H1[q]? = H[q]?) → va_S A0 H0 H1 locs1 → W p l e R s m args below meth c H1 locs1 (cells + mc) (slots + ms) Q (F0 m (pc + 3) ls (.double r :: rest))) : W p l e R s m args below meth c H locs cells slots Q (F0 m pc ls st0) := by
  intro T hT X
  rcases hr T hT X with ⟨v, st₀, t, T', L, h0, X', hL, e1, e2, ⟨⟨r, u, hv, hp, hb⟩, hF⟩, st⟩ | ⟨q, st₀, t, T', L, E, ce, h0, X', hL, e1, e2, ⟨u, hp, hb, hF⟩, hce, hcv, hcl, st⟩
  · cases hv
    obtain ⟨k1, k2, k3⟩ := vx_keep h0 e1 hS hA hf hL hF
    obtain ⟨t2, a1, b1⟩ := kk r u t T'.heap (locs ++ L) e1.symm (by rw [← e2]; exact X'.warmed.alike) hp hb k1 k2 k3 T' rfl X'
    exact ⟨t2, st t2 a1, b1⟩
  · obtain ⟨k1, k2, k3⟩ := vx_keep h0 e1 hS hAX hf hL hF
    obtain ⟨t2, a1, b1⟩ := kx E ce q u t T'.heap (locs ++ L) e1.symm (by rw [← e2]; exact X'.warmed.alike) hp hb k1 k2 k3 (by rw [e1]; exact hce) hcv hcl T' rfl X'
    exact ⟨t2, st.trans a1, b1⟩
theorem vx_callv {S SX : Type} {post : S → Prop} {px : SX → Prop} {B : S → State → Prop} {BX : String → SX → State → Prop} {AX : Nat → Prop} (hr : vx_Run p l e R s m args below meth c H locs cells slots mc ms (F0 m pc ls st0) rest (va_Qv post B A1 a) (vx_X px BX AX) free) (hS : va_S A0 H0 H locs) (hA : ∀ q, q < H.size → A1 q → A0 q) (hf : ∀ q, free q → A0 q) (hAX : ∀ q, q < H.size → AX q → A0 q)
    (kx : ∀ (E : String) (ce : Cell) (q9 : Addr) (u : SX) (t : State) (H1 : Heap) (locs1 : List Loc), t.heap = H1 → s.vm.Alike t.vm → px u → BX E u t → H.size ≤ H1.size → (∀ q : Nat, q < H.size → ¬ AX q → H1[q]? = H[q]?) → va_S A0 H0 H1 locs1 → H1[q9]? = some ce → ce.vm = .none → s.vm.findClass E = some ce.cls → vx_W p l e R s m args below meth c H1 locs1 (cells + mc) (slots + ms) Q (F0 m pc ls rest) q9)
    (kk : ∀ (u : S) (t : State) (H1 : Heap) (locs1 : List Loc), t.heap = H1 → s.vm.Alike t.vm → post u → B u t → H.size ≤ H1.size → (∀ q : Nat, q < H.size → ¬ A1 q → H1[q]? = H[q]?) → va_S A0 H0 H1 locs1 → W p l e R s m args below meth c H1 locs1 (cells + mc) (slots + ms) Q (F0 m (pc + 3) ls (rest))) : W p l e R s m args below meth c H locs cells slots Q (F0 m pc ls st0) := by
  intro T hT X
  rcases hr T hT X with ⟨v, st₀, t, T', L, h0, X', hL, e1, e2, ⟨⟨u, hv, hp, hb⟩, hF⟩, st⟩ | ⟨q, st₀, t, T', L, E, ce, h0, X', hL, e1, e2, ⟨u, hp, hb, hF⟩, hce, hcv, hcl, st⟩
  · cases hv
    obtain ⟨k1, k2, k3⟩ := vx_keep h0 e1 hS hA hf hL hF
    obtain ⟨t2, a1, b1⟩ := kk u t T'.heap (locs ++ L) e1.symm (by rw [← e2]; exact X'.warmed.alike) hp hb k1 k2 k3 T' rfl X'
    exact ⟨t2, st t2 a1, b1⟩
  · obtain ⟨k1, k2, k3⟩ := vx_keep h0 e1 hS hAX hf hL hF
    obtain ⟨t2, a1, b1⟩ := kx E ce q u t T'.heap (locs ++ L) e1.symm (by rw [← e2]; exact X'.warmed.alike) hp hb k1 k2 k3 (by rw [e1]; exact hce) hcv hcl T' rfl X'
    exact ⟨t2, st.trans a1, b1⟩
/-- caught by the row x of this method's table; the rows ahead don't take it -/
theorem vx_catch {own name : String} {E : String} {ce : Cell} {q : Addr} (hown : s.vm.findClass own = some m.cls) (pre : List ExceptionTableEntry) (x : ExceptionTableEntry) (suf : List ExceptionTableEntry) (hsplit : c.exceptionTable.toList = pre ++ x :: suf)
    (hpass : ∀ z ∈ pre, covers z pc = false ∨ (z.catchType ≠ 0 ∧ ∃ nm : String, (Cond.classLink own z.catchType nm).before args s = true ∧ va_Nc E nm s)) (hx : covers x pc = true) (h0 : x.catchType ≠ 0)
    (hlink : (Cond.classLink own x.catchType name).before args s = true) (hcast : (Cond.castable E name).before args s = true) (hcell : H[q]? = some ce) (hv : ce.vm = .none) (hcl : s.vm.findClass E = some ce.cls)
    (kk : W p l e R s m args below meth c H locs cells slots Q (F0 m x.handlerPc ls [.ref q])) : vx_W p l e R s m args below meth c H locs cells slots Q (F0 m pc ls rest) q := by
  intro T hT X
  have hpl : e.platform.magicAccessors = ({} : Platform).magicAccessors := by rw [X.admits.platform]
  obtain ⟨c3, c4, hc3, hc4, hasg⟩ := Cond.castable_spec hcast
  cases Option.some.inj (hc3.symm.trans hcl)
  obtain ⟨c5, hc5, hcl5⟩ := Cond.classLink_spec hown hlink e.platform hpl
  cases Option.some.inj (hc4.symm.trans hc5)
  obtain ⟨vm', X', st⟩ := X.thenCaughtThrough q (g := F0 m pc ls rest) rfl (Steps.refl _) (by rw [hT]; exact hcell) (by rw [hv]; rfl) (by obtain ⟨k9, h9, -⟩ := Vm.findClass_spec hcl; exact ⟨k9, h9⟩) pre x suf hsplit
    (fun z hz => by
      rcases hpass z hz with h | ⟨hz0, nm, hl1, hn1⟩
      · exact Or.inl h
      · obtain ⟨c6, hc6, hcl6⟩ := Cond.classLink_spec hown hl1 e.platform hpl
        obtain ⟨a8, b8, h1, h2, h3⟩ := hn1
        cases Option.some.inj (h1.symm.trans hcl)
        cases Option.some.inj (h2.symm.trans hc6)
        exact Or.inr ⟨hz0, _, hcl6, h3⟩) hx (Or.inr ⟨h0, c4, hcl5, hasg⟩)
  obtain ⟨t, a1, b1⟩ := kk (T.setVm vm') hT X'
  exact ⟨t, st.trans a1, b1⟩
end Rows
section Ends
variable {p : Program} {l : Launch} {e : Env} {R : Room} {s : State} {m : MethodId} {args : Array Value} {below : List Frame} {meth : Method} {c : Code} {H : Heap} {locs : List Loc} {cells slots : Nat} {Q : State → Prop}
variable {mc ms : Nat} {free : Addr → Prop} {A0 A1 : Nat → Prop} {H0 : Heap} {a : Array Value} {ls : Array Slot} {st0 rest : List Value}
variable {Qc : Array Value → State → Outcome → State → Prop} {XC : String → State → State → Prop}
/-- what a body that may throw owes at its end -/
def vx_MQ (below : List Frame) (Qc : Array Value → State → Outcome → State → Prop) (XC : String → State → State → Prop) (a : Array Value) (s : State) (mc ms : Nat) (free : Addr → Prop) : State → Prop := fun t =>
  ∃ o, t.status = .running ∧ Ended t below o ∧ vx_Q Qc XC mc ms free a s o t
theorem vx_ret {g : JFrame} {mc ms : Nat} (k : W p l e R s m args below meth c H locs cells slots (MQ below Qc args s mc ms free) g) : W p l e R s m args below meth c H locs cells slots (vx_MQ below Qc XC args s mc ms free) g := by
  intro T hT X
  obtain ⟨t, a1, o, b1, b2, b3, b4⟩ := k T hT X
  exact ⟨t, a1, o, b1, b2, Or.inl ⟨b3, b4⟩⟩
/-- not caught here: it goes on to the caller -/
theorem vx_widen {g : JFrame} {q : Addr} {k n : Nat} (h1 : cells ≤ k) (h2 : slots ≤ n) (kk : vx_W p l e R s m args below meth c H locs k n Q g q) : vx_W p l e R s m args below meth c H locs cells slots Q g q := fun T hT X => kk T hT (stand_widen X h1 h2)
theorem vx_out {pc : Nat} {E : String} {ce : Cell} {q : Addr} {mc ms : Nat} (hout : ∀ x ∈ c.exceptionTable.toList, covers x pc = false) (hlocks : meth.locks = false) (hcell : H[q]? = some ce) (hv : ce.vm = .none) (hcl : s.vm.findClass E = some ce.cls)
    (hx : ∀ t : State, t.heap = H → s.vm.Alike t.vm → XC E s t) (hf : ∀ z ∈ locs, free z.base) (hc : cells ≤ mc) (hs : slots ≤ ms) :
    vx_W p l e R s m args below meth c H locs cells slots (vx_MQ below Qc XC args s mc ms free) (F0 m pc ls rest) q := by
  intro T hT X
  obtain ⟨st1, hrun, hend, hW, hsm⟩ := X.leaveThrown q (g := F0 m pc ls rest) rfl rfl rfl hout hlocks
  have hcell9 : (T.setFrames (.throwing q :: below)).heap[q]? = some ce := by
    show T.heap[q]? = some ce
    rw [hT]; exact hcell
  exact ⟨_, st1, .threw q, hrun, hend, Or.inr ⟨q, rfl, E, ce, locs, hx _ hT hW.alike, hcell9, hv, hcl, hW, hsm.mono hc hs, hf⟩⟩
theorem vx_frame {U : State} {k n : Nat} (h : s.sameButNew ({ U with vm := s.vm } : State) locs k n) : s.heap.size ≤ U.heap.size ∧ ∀ q : Nat, q < s.heap.size → (∀ z ∈ locs, z.base ≠ q) → U.heap[q]? = s.heap[q]? := by
  obtain ⟨-, h2, -, -, -, h6⟩ := h
  refine ⟨h2, fun q hq hz => ?_⟩
  obtain ⟨c9, e1, e2, e3, e4⟩ := h6 q _ (Array.getElem?_eq_getElem hq)
  have hs : c9.slots = (s.heap[q]).slots := Array.ext_getElem? fun i => e4 i fun hm => hz _ hm rfl
  have h9 : c9 = s.heap[q] := by
    rw [hs] at e2
    exact e2
  have e5 : U.heap[q]? = some c9 := e1
  rw [e5, h9, Array.getElem?_eq_getElem hq]
/-- the words of a throw but the four that speak of the heap -/
def vx_no (w : Cond) : Bool := decide (w ≠ .isRef (.static Bundle.tN "UNASSIGNED_STACK" Bundle.steD)) && decide (w ≠ .isRef (.static Bundle.tN "SUPPRESSED_SENTINEL" Bundle.listD)) && decide (w ≠ .laysStatic Bundle.tN "UNASSIGNED_STACK" Bundle.steD) && decide (w ≠ .laysStatic Bundle.tN "SUPPRESSED_SENTINEL" Bundle.listD)
def vx_at0 (own : String) (ic : Nat) (X : String) (names : List String) : List Cond := (Bundle.ownAtoms0 own ic X names).filter vx_no
def vx_atS (own : String) (ic : Nat) (X : String) (names : List String) : List Cond := (Bundle.ownAtoms own ic X names).filter vx_no
/-- a word that the tables alone decide, or a good one -/
def vx_ot (w : Cond) : Bool := w.onTables || goodWord w
theorem vx_ot_at {args a' : Array Value} {s U : State} {w : Cond} (hW : s.WarmedH U.vm) (hvm : s.vm = U.vm) (hg : vx_ot w = true) (h : w.before args s = true) : w.before a' U = true := by
  simp only [vx_ot, Bool.or_eq_true] at hg
  rcases hg with hg | hg
  · exact va_tabs hg hvm h
  · exact word_at hW (good_of_word hg) h
/-- a list's words: the good ones out of the method's own list, the others by premises of their own -/
theorem vx_hat {args : Array Value} {s : State} {L B : List Cond} (h1 : ∀ w ∈ L.filter goodWord, w.before args s = true) (h2 : ∀ w ∈ L.filter (fun w => !goodWord w), w ∈ B) (h3 : ∀ w ∈ B, w.before args s = true) : ∀ w ∈ L, w.before args s = true := by
  intro w hw
  by_cases g : goodWord w = true
  · exact h1 w (List.mem_filter.mpr ⟨hw, g⟩)
  · refine h3 w (h2 w (List.mem_filter.mpr ⟨hw, ?_⟩))
    show (!goodWord w) = true
    cases hgw : goodWord w
    · rfl
    · exact absurd hgw g
theorem vx_c {args : Array Value} {s : State} {w : Cond} {B : List Cond} (h : w.before args s = true) (t : ∀ w ∈ B, w.before args s = true) : ∀ w' ∈ w :: B, w'.before args s = true := fun w' h' => (List.mem_cons.mp h').elim (fun e => by rw [e]; exact h) (t w')
theorem vx_n {args : Array Value} {s : State} : ∀ w ∈ ([] : List Cond), w.before args s = true := fun _ h => nomatch h
theorem vx_own {args : Array Value} {s : State} {L : List Cond} (h1 : ∀ w ∈ L.filter vx_no, w.before args s = true)
    (hU : (Cond.isRef (.static Bundle.tN "UNASSIGNED_STACK" Bundle.steD)).before args s = true) (hN : (Cond.isRef (.static Bundle.tN "SUPPRESSED_SENTINEL" Bundle.listD)).before args s = true)
    (lU : (Cond.laysStatic Bundle.tN "UNASSIGNED_STACK" Bundle.steD).before args s = true) (lN : (Cond.laysStatic Bundle.tN "SUPPRESSED_SENTINEL" Bundle.listD).before args s = true) : ∀ w ∈ L, w.before args s = true := by
  intro w hw
  by_cases e1 : w = .isRef (.static Bundle.tN "UNASSIGNED_STACK" Bundle.steD)
  · rw [e1]; exact hU
  · by_cases e2 : w = .isRef (.static Bundle.tN "SUPPRESSED_SENTINEL" Bundle.listD)
    · rw [e2]; exact hN
    · by_cases e3 : w = .laysStatic Bundle.tN "UNASSIGNED_STACK" Bundle.steD
      · rw [e3]; exact lU
      · by_cases e4 : w = .laysStatic Bundle.tN "SUPPRESSED_SENTINEL" Bundle.listD
        · rw [e4]; exact lN
        · exact h1 w (List.mem_filter.mpr ⟨hw, by unfold vx_no; rw [decide_eq_true e1, decide_eq_true e2, decide_eq_true e3, decide_eq_true e4]; rfl⟩)
/-- where a static field lies, its class's statics cell in H -/
def vx_L (C n d : String) (A : Nat → Prop) (U : State) (H : Heap) : Prop := ∃ (c : ClassId) (k : Class) (i : Nat) (f : Field) (a : Nat) (cell : Cell), U.vm.findClass C = some c ∧ U.fieldFound? C n d = some (c, k, i, f) ∧ f.isStatic = true ∧ k.statics = some a ∧ H[a]? = some cell ∧ cell.vm.isStatics = true ∧ cell.cls = c ∧ f.slot < cell.slots.size ∧ k.staticTypes[f.slot]? = some f.type ∧ ¬ A a
theorem vx_L.moved {C n d : String} {A : Nat → Prop} {u U : State} {H : Heap} (hvm : u.vm.Alike U.vm) (h : vx_L C n d A u H) : vx_L C n d A U H := by
  obtain ⟨c, k, i, f, a, cell, h1, h2, h3, h4, h5, h6, h7, h8, h9, h10⟩ := h
  obtain ⟨k', hi', he⟩ := State.fieldFound?_setVm hvm h2
  exact ⟨c, k', i, f, a, cell, by rw [hvm.findClass]; exact h1, hi', h3, by rw [he]; exact h4, h5, h6, h7, h8, by rw [he]; exact h9, h10⟩
theorem vx_L.kept {C n d : String} {A : Nat → Prop} {U : State} {H H1 : Heap} (h : vx_L C n d A U H) (hq : ∀ a : Nat, a < H.size → ¬ A a → H1[a]? = H[a]?) : vx_L C n d A U H1 := by
  obtain ⟨c, k, i, f, a, cell, h1, h2, h3, h4, h5, h6, h7, h8, h9, h10⟩ := h
  exact ⟨c, k, i, f, a, cell, h1, h2, h3, h4, by rw [hq a (Array.getElem?_eq_some_iff.mp h5).1 h10]; exact h5, h6, h7, h8, h9, h10⟩
theorem vx_L.narrow {C n d : String} {A B : Nat → Prop} {U : State} {H : Heap} (h : vx_L C n d A U H) (hAB : ∀ q, B q → A q) : vx_L C n d B U H := by
  obtain ⟨c, k, i, f, a, cell, h1, h2, h3, h4, h5, h6, h7, h8, h9, h10⟩ := h
  exact ⟨c, k, i, f, a, cell, h1, h2, h3, h4, h5, h6, h7, h8, h9, fun z => h10 (hAB _ z)⟩
theorem vx_L.word {C n d : String} {A : Nat → Prop} {s : State} {args : Array Value} (h : vx_L C n d A s s.heap) : (Cond.laysStatic C n d).before args s = true := by
  obtain ⟨c, k, i, f, a, cell, h1, h2, h3, h4, h5, h6, h7, h8, h9, -⟩ := h
  show (Cond.laysStatic C n d).holds args s none s [] = true
  exact Cond.laysStatic_of h1 h2 h3 h4 h5 h6 h7 h8 h9
/-- .. and what it holds: null or some reference -/
def vx_Zq (C n d : String) (A : Nat → Prop) (U : State) (H : Heap) : Prop := va_Zq C n d A U H ∧ vx_L C n d A U H
theorem vx_Zq.moved {C n d : String} {A : Nat → Prop} {u U : State} {H : Heap} (hvm : u.vm.Alike U.vm) (h : vx_Zq C n d A u H) : vx_Zq C n d A U H := ⟨va_Zq.moved hvm h.1, vx_L.moved hvm h.2⟩
theorem vx_Zq.kept {C n d : String} {A : Nat → Prop} {U : State} {H H1 : Heap} (h : vx_Zq C n d A U H) (hq : ∀ a : Nat, a < H.size → ¬ A a → H1[a]? = H[a]?) : vx_Zq C n d A U H1 := ⟨va_Zq.kept h.1 hq, vx_L.kept h.2 hq⟩
theorem vx_Zq.narrow {C n d : String} {A B : Nat → Prop} {U : State} {H : Heap} (h : vx_Zq C n d A U H) (hAB : ∀ q, B q → A q) : vx_Zq C n d B U H := ⟨va_Zq.narrow h.1 hAB, vx_L.narrow h.2 hAB⟩
theorem vx_Zqof {args : Array Value} {s : State} {C n d : String} {A : Nat → Prop} (hl : (Cond.laysStatic C n d).before args s = true) (hini : (Cond.initialized C).before args s = true) (h : (Cond.isRef (.static C n d)).before args s = true) (hA : ∀ a : Nat, a < s.heap.size → ¬ A a) : vx_Zq C n d A s s.heap := by
  refine ⟨va_Zqof hl hini h hA, ?_⟩
  obtain ⟨c, k, i, f, a, cell, h1, h2, h3, h4, h5, h6, h7, h8, h9⟩ := Cond.laysStatic_spec hl
  exact ⟨c, k, i, f, a, cell, h1, h2, h3, h4, h5, h6, h7, h8, h9, hA a (Array.getElem?_eq_some_iff.mp h5).1⟩
theorem vx_isRef {C n d : String} {v : Value} {A : Nat → Prop} {s : State} {args : Array Value} (h : va_Z C n d v A s s.heap) (hv : v.isRef = true) : (Cond.isRef (.static C n d)).before args s = true := by
  obtain ⟨cf, kf, fi, f, a, cell, h1, h2, h3, h4, h5, h6, h7, -⟩ := h
  have he : (Term.static C n d).eval args s none [] s = some v := by
    simp [Term.eval, State.fieldNamed?, h1, h2, h4, h5, h6, h7]
  simp only [Cond.before, Cond.holds, Cond.value, he]
  cases v <;> simp_all [Value.isRef]
theorem vx_isRefq {C n d : String} {A : Nat → Prop} {s : State} {args : Array Value} (h : va_Zq C n d A s s.heap) : (Cond.isRef (.static C n d)).before args s = true := by
  rcases h with h | ⟨t, h⟩
  · exact vx_isRef h rfl
  · exact vx_isRef h rfl
/-- the same frame, seen from here: as if the method were called anew in this heap -/
theorem vx_rebase {T : State} (X : Stand p l e R s m args below meth c T locs cells slots) {R' : Room} (hf : R'.frames ≤ R.frames) (hl : R'.locals ≤ R.locals) (hc : cells + R'.cells ≤ R.cells) (hs : slots + R'.slots ≤ R.slots) :
    Stand p l e R' ((T.setVm s.vm).setFrames (.invoking m args :: below)) m args below meth c T [] 0 0 := by
  have htop : (T.setVm s.vm).topJava?.isSome := X.here.top
  have hF : ((T.setVm s.vm).setFrames (.invoking m args :: below)).frames = .invoking m args :: below := State.frames_setFrames _ (State.cur_lt_of_top htop)
  obtain ⟨g₀, hg0⟩ := Option.isSome_iff_exists.mp htop
  obtain ⟨r, hr⟩ := State.topJava?_eq_some.mp hg0
  have hl9 : e.platform.stackLimits (T.setVm s.vm).me = e.platform.stackLimits s.me := X.limits
  have hb9 : (T.setVm s.vm).me.stackBytes = s.me.stackBytes := X.bytes
  refine ⟨X.admits, X.cas, X.clock, hF, ?_, X.hears, X.method, X.code, X.here, X.tail, X.warmed, ?_, ?_, ?_⟩
  · have h := X.room
    have hU : ((T.setVm s.vm).setFrames (.invoking m args :: below)).localsInUse = s.localsInUse := by
      rw [State.localsInUse_invoking hF (meth := meth) (c := c) X.method X.code, State.localsInUse_invoking X.frames X.method X.code]
    simp only [State.hasRoom, Bool.and_eq_true, decide_eq_true_eq] at h ⊢
    obtain ⟨⟨⟨⟨h1, h2, h3, h4, h5, h6⟩, h7⟩, h8⟩, h9⟩ := h
    rw [X.frames, List.length_cons] at h2 h3
    have q1 := X.heapSize
    have q2 := X.used
    simp only [hF, hU, List.length_cons, State.stackLimits_setFrames, State.stackBytes_setFrames, hl9, hb9]
    refine ⟨⟨⟨⟨by omega, by omega, by omega, by omega, by omega, h6⟩, ?_⟩, ?_⟩, X.book⟩
    · show T.heap.size + R'.cells ≤ e.platform.maxCells
      omega
    · show T.slotsUsed + R'.slots ≤ e.platform.maxSlots
      omega
  · rw [State.stackLimits_setFrames]; rfl
  · rw [State.stackBytes_setFrames]; rfl
  · refine ⟨?_, Nat.le_refl _, Nat.le_refl _, ?_, ?_, fun a c9 h9 => ⟨c9, h9, rfl, rfl, fun _ _ => rfl⟩⟩
    · obtain ⟨t, ht, -⟩ := State.frames_cons hr
      show T.setVm s.vm = { ((T.setVm s.vm).setFrames (.invoking m args :: below)).setFrames (T.setVm s.vm).frames with heap := T.heap, slotsUsed := T.slotsUsed }
      rw [State.setFrames_setFrames, State.setFrames_self ht]
      rfl
    · show T.slotsUsed = T.slotsUsed + ((T.heap.toList.drop T.heap.size).map (·.slots.size)).sum
      rw [List.drop_eq_nil_of_le (Nat.le_of_eq Array.length_toList)]
      rfl
    · show ((T.heap.toList.drop T.heap.size).map (·.slots.size)).sum ≤ 0
      rw [List.drop_eq_nil_of_le (Nat.le_of_eq Array.length_toList)]
      exact Nat.le_refl _
/-- 'throw new E()': new; dup; invokespecial; athrow -/
theorem vx_throw0 {cc : ByteArray} {pc : Nat} (hexec : p.tables.exec = Jvm.exec) (hb : c.code = cc) (hl : l.stackTraces = false) {own cls : String} {names : List String} {ik ic mc ms : Nat} {A : Nat → Prop}
    (hown : s.vm.findClass own = some m.cls) (hcls : Bundle.fit cls = true) (hnames : ∀ n ∈ names, Bundle.fit n = true)
    (hk : (Cond.classLink own ik cls).before args s = true) (hini : (Cond.initialized cls).before args s = true) (hat : ∀ w ∈ vx_at0 own ic cls names, w.before args s = true)
    (hgood : ∀ w ∈ Cond.classLink own ik cls :: Cond.initialized cls :: vx_at0 own ic cls names, vx_ot w = true)
    (hU : vx_Zq Bundle.tN "UNASSIGNED_STACK" Bundle.steD A s s.heap) (hN : vx_Zq Bundle.tN "SUPPRESSED_SENTINEL" Bundle.listD A s s.heap) (hS : va_S A s.heap H locs) (hsize : ls.size = c.maxLocals)
    (d0 : decode cc pc = .ok (.new ik, 3)) (d3 : decode cc (pc + 3) = .ok (.dup, 1)) (d4 : decode cc (pc + 4) = .ok (.invokespecial ic, 3)) (d7 : decode cc (pc + 7) = .ok (.athrow, 1))
    (hout : ∀ x ∈ c.exceptionTable.toList, covers x (pc + 7) = false)
    (hRframes : names.length + 3 < R.frames) (hRlocals : (rest.map fun v => v.category).sum + (13 * (names.length + 1) + 42) ≤ R.locals) (hRcells : cells + 1 ≤ R.cells) (hRslots : slots + 6 ≤ R.slots) (hlocks : meth.locks = false)
    (hx : ∀ t : State, s.vm.Alike t.vm → H.size ≤ t.heap.size → (∀ q : Nat, q < H.size → t.heap[q]? = H[q]?) → XC cls s t)
    (hf : ∀ z ∈ locs, free z.base) (hc : cells + 1 ≤ mc) (hs : slots + 6 ≤ ms) :
    W p l e R s m args below meth c H locs cells slots (vx_MQ below Qc XC args s mc ms free) (F0 m pc ls rest) := by
  intro T hT X
  have htr : e.platform.stackTraces = false := (show e.platform.stackTraces = l.stackTraces by rw [X.admits.platform]).trans hl
  have Y := vx_rebase X (R' := { frames := R.frames, locals := R.locals, cells := 1, slots := 6 }) (Nat.le_refl _) (Nat.le_refl _) hRcells hRslots
  obtain ⟨s', hA⟩ : ∃ z, z = (T.setVm s.vm).setFrames (.invoking m args :: below) := ⟨_, rfl⟩
  rw [← hA] at Y
  have hvm : s'.vm = s.vm := by rw [hA]; rfl
  have hhp : s'.heap = H := by rw [hA]; exact hT
  have hW0 : s.WarmedH s'.vm := by rw [hvm]; exact State.WarmedH.refl s
  have hat' : ∀ w ∈ vx_at0 own ic cls names, w.before args s' = true := fun w hw => vx_ot_at hW0 hvm.symm (hgood w (List.mem_cons_of_mem _ (List.mem_cons_of_mem _ hw))) (hat w hw)
  have hk' : (Cond.classLink own ik cls).before args s' = true := vx_ot_at hW0 hvm.symm (hgood _ List.mem_cons_self) hk
  have hini' : (Cond.initialized cls).before args s' = true := vx_ot_at hW0 hvm.symm (hgood _ (List.mem_cons_of_mem _ List.mem_cons_self)) hini
  have hU' : vx_Zq Bundle.tN "UNASSIGNED_STACK" Bundle.steD A s' s'.heap := by rw [hhp]; exact vx_Zq.moved hW0.alike (hU.kept hS.2.1)
  have hN' : vx_Zq Bundle.tN "SUPPRESSED_SENTINEL" Bundle.listD A s' s'.heap := by rw [hhp]; exact vx_Zq.moved hW0.alike (hN.kept hS.2.1)
  have h : ∀ w ∈ Bundle.ownAtoms0 own ic cls names, w.before args s' = true := vx_own hat' (vx_isRefq hU'.1) (vx_isRefq hN'.1) hU'.2.word hN'.2.word
  have hown' : s'.vm.findClass own = some m.cls := by rw [hvm]; exact hown
  have hins : (Cond.instantiable cls 6).before args s' = true := h _ (by simp [Bundle.ownAtoms0])
  obtain ⟨vm₁, cX, kX, hfX, hkX, -, -, X₁, st1⟩ := Y.newCold hexec (own := own) (C := cls) (index := ik) (n := 6) hown' hk' hins hini'
    (g := F0 m pc ls rest) rfl (by rw [hb]; exact d0) (Nat.le_refl _) (Nat.le_refl _)
  generalize hT1 : (T.setVm vm₁).pushCell { cls := cX, slots := kX.instanceTypes.map defaultValue, vm := .none } = T1 at X₁ st1
  have hcat : (Value.ref T.heap.size).category = 1 := rfl
  have hcellA : T1.heap[T.heap.size]? = some (freshCell cX kX) := by rw [← hT1]; exact State.heap_pushCell_size _ _
  have d3' : decode c.code (pc + 3) = .ok (.dup, 1) := by rw [hb]; exact d3
  obtain ⟨U, hsteps, hrun, hend, hW, hsame, ce, hce, hO⟩ := X₁.ctorThrow0 hexec htr (own := own) (cls := cls) (names := names) (ic := ic) hown' hcls hnames h (fun x hx => nomatch hx) hfX hkX hcellA (by rw [hhp, hT]; exact Nat.le_refl _)
    (g := { method := m, pc := pc + 4, locals := ls, stack := .ref T.heap.size :: .ref T.heap.size :: rest, locked := none }) rfl hsize rfl rfl (rest := rest) rfl
    (by rw [hb]; exact d4) (by rw [hb]; exact d7) hout hRframes (by simp only [List.map_cons, List.sum_cons, hcat]; omega) hlocks
  obtain ⟨f1, f2⟩ := vx_frame hsame
  rw [hhp] at f1 f2
  have hWs : s.WarmedH U.vm := State.WarmedH.trans hW0 hW
  have hcl : s.vm.findClass cls = some ce.cls := by
    have h9 := hO.cls
    rw [hvm] at h9
    exact h9
  have hall : s.sameButNew ({ U with vm := s.vm } : State) locs mc ms := by
    subst hA
    obtain ⟨e1, e2⟩ := hsame
    rw [State.setFrames_setFrames] at e1
    have h2 : (T.setVm s.vm).sameButNew ({ U with vm := s.vm } : State) [] (0 + 1) (0 + 6) := ⟨e1, e2⟩
    have h3 := X.same.trans h2
    rw [List.append_nil] at h3
    exact h3.mono hc hs
  refine ⟨U, ?_, .threw T.heap.size, hrun, hend, Or.inr ⟨T.heap.size, rfl, cls, ce, locs, hx U hWs.alike f1 (fun q hq => f2 q hq (fun z hz => nomatch hz)), hce, hO.vm, hcl, hWs, hall, hf⟩⟩
  refine st1 _ ?_
  show Steps p.tables e below (T1.setTop { method := m, pc := pc + 3, locals := ls, stack := .ref T.heap.size :: rest, locked := none }) _
  jvm_step X₁.here [X₁.here.top, hexec, d3', Value.category]
  exact hsteps
/-- 'throw new E("text")': new; dup; ldc; invokespecial; athrow -/
theorem vx_throwS {cc : ByteArray} {pc : Nat} (hexec : p.tables.exec = Jvm.exec) (hb : c.code = cc) (hl : l.stackTraces = false) {own cls text : String} {names : List String} {ik is ic mc ms sa : Nat} {A : Nat → Prop}
    (hown : s.vm.findClass own = some m.cls) (hcls : Bundle.fit cls = true) (hnames : ∀ n ∈ names, Bundle.fit n = true)
    (hk : (Cond.classLink own ik cls).before args s = true) (hini : (Cond.initialized cls).before args s = true) (hstr : vk_R own is text sa s) (hat : ∀ w ∈ vx_atS own ic cls names, w.before args s = true)
    (hgood : ∀ w ∈ Cond.classLink own ik cls :: Cond.initialized cls :: vx_atS own ic cls names, vx_ot w = true)
    (hU : vx_Zq Bundle.tN "UNASSIGNED_STACK" Bundle.steD A s s.heap) (hN : vx_Zq Bundle.tN "SUPPRESSED_SENTINEL" Bundle.listD A s s.heap) (hS : va_S A s.heap H locs) (hsize : ls.size = c.maxLocals)
    (d0 : decode cc pc = .ok (.new ik, 3)) (d3 : decode cc (pc + 3) = .ok (.dup, 1)) (d4 : decode cc (pc + 4) = .ok (.ldc is, 2)) (d6 : decode cc (pc + 6) = .ok (.invokespecial ic, 3)) (d9 : decode cc (pc + 9) = .ok (.athrow, 1))
    (hout : ∀ x ∈ c.exceptionTable.toList, covers x (pc + 9) = false)
    (hRframes : names.length + 3 < R.frames) (hRlocals : (rest.map fun v => v.category).sum + (13 * (names.length + 1) + 43) ≤ R.locals) (hRcells : cells + 1 ≤ R.cells) (hRslots : slots + 6 ≤ R.slots) (hlocks : meth.locks = false)
    (hx : ∀ t : State, s.vm.Alike t.vm → H.size ≤ t.heap.size → (∀ q : Nat, q < H.size → t.heap[q]? = H[q]?) → XC cls s t)
    (hf : ∀ z ∈ locs, free z.base) (hc : cells + 1 ≤ mc) (hs : slots + 6 ≤ ms) :
    W p l e R s m args below meth c H locs cells slots (vx_MQ below Qc XC args s mc ms free) (F0 m pc ls rest) := by
  intro T hT X
  have htr : e.platform.stackTraces = false := (show e.platform.stackTraces = l.stackTraces by rw [X.admits.platform]).trans hl
  have Y := vx_rebase X (R' := { frames := R.frames, locals := R.locals, cells := 1, slots := 6 }) (Nat.le_refl _) (Nat.le_refl _) hRcells hRslots
  obtain ⟨s', hA⟩ : ∃ z, z = (T.setVm s.vm).setFrames (.invoking m args :: below) := ⟨_, rfl⟩
  rw [← hA] at Y
  have hvm : s'.vm = s.vm := by rw [hA]; rfl
  have hhp : s'.heap = H := by rw [hA]; exact hT
  have hW0 : s.WarmedH s'.vm := by rw [hvm]; exact State.WarmedH.refl s
  have hat' : ∀ w ∈ vx_atS own ic cls names, w.before args s' = true := fun w hw => vx_ot_at hW0 hvm.symm (hgood w (List.mem_cons_of_mem _ (List.mem_cons_of_mem _ hw))) (hat w hw)
  have hk' : (Cond.classLink own ik cls).before args s' = true := vx_ot_at hW0 hvm.symm (hgood _ List.mem_cons_self) hk
  have hini' : (Cond.initialized cls).before args s' = true := vx_ot_at hW0 hvm.symm (hgood _ (List.mem_cons_of_mem _ List.mem_cons_self)) hini
  have hU' : vx_Zq Bundle.tN "UNASSIGNED_STACK" Bundle.steD A s' s'.heap := by rw [hhp]; exact vx_Zq.moved hW0.alike (hU.kept hS.2.1)
  have hN' : vx_Zq Bundle.tN "SUPPRESSED_SENTINEL" Bundle.listD A s' s'.heap := by rw [hhp]; exact vx_Zq.moved hW0.alike (hN.kept hS.2.1)
  have h : ∀ w ∈ Bundle.ownAtoms own ic cls names, w.before args s' = true := vx_own hat' (vx_isRefq hU'.1) (vx_isRefq hN'.1) hU'.2.word hN'.2.word
  have hown' : s'.vm.findClass own = some m.cls := by rw [hvm]; exact hown
  have hins : (Cond.instantiable cls 6).before args s' = true := h _ (by simp [Bundle.ownAtoms])
  obtain ⟨vm₁, cX, kX, hfX, hkX, -, -, X₁, st1⟩ := Y.newCold hexec (own := own) (C := cls) (index := ik) (n := 6) hown' hk' hins hini'
    (g := F0 m pc ls rest) rfl (by rw [hb]; exact d0) (Nat.le_refl _) (Nat.le_refl _)
  generalize hT1 : (T.setVm vm₁).pushCell { cls := cX, slots := kX.instanceTypes.map defaultValue, vm := .none } = T1 at X₁ st1
  have hcat : (Value.ref T.heap.size).category = 1 := rfl
  have hcellA : T1.heap[T.heap.size]? = some (freshCell cX kX) := by rw [← hT1]; exact State.heap_pushCell_size _ _
  have d3' : decode c.code (pc + 3) = .ok (.dup, 1) := by rw [hb]; exact d3
  have d4' : decode c.code (pc + 4) = .ok (.ldc is, 2) := by rw [hb]; exact d4
  have hstr' : vk_R own is text sa s' := vk_R.warm hW0 hstr
  obtain ⟨U, hsteps, hrun, hend, hW, hsame, ce, hce, hO⟩ := X₁.ctorThrowS hexec htr (own := own) (cls := cls) (names := names) (ic := ic) hown' hcls hnames h (fun x hx => nomatch hx) hfX hkX hcellA (by rw [hhp, hT]; exact Nat.le_refl _) (msg := .ref sa) rfl
    (g := { method := m, pc := pc + 6, locals := ls, stack := .ref sa :: .ref T.heap.size :: .ref T.heap.size :: rest, locked := none }) rfl hsize rfl rfl (rest := rest) rfl
    (by rw [hb]; exact d6) (by rw [hb]; exact d9) hout hRframes (by simp only [List.map_cons, List.sum_cons, hcat]; omega) hlocks
  obtain ⟨f1, f2⟩ := vx_frame hsame
  rw [hhp] at f1 f2
  have hWs : s.WarmedH U.vm := State.WarmedH.trans hW0 hW
  have hcl : s.vm.findClass cls = some ce.cls := by
    have h9 := hO.cls
    rw [hvm] at h9
    exact h9
  have hall : s.sameButNew ({ U with vm := s.vm } : State) locs mc ms := by
    subst hA
    obtain ⟨e1, e2⟩ := hsame
    rw [State.setFrames_setFrames] at e1
    have h2 : (T.setVm s.vm).sameButNew ({ U with vm := s.vm } : State) [] (0 + 1) (0 + 6) := ⟨e1, e2⟩
    have h3 := X.same.trans h2
    rw [List.append_nil] at h3
    exact h3.mono hc hs
  refine ⟨U, ?_, .threw T.heap.size, hrun, hend, Or.inr ⟨T.heap.size, rfl, cls, ce, locs, hx U hWs.alike f1 (fun q hq => f2 q hq (fun z hz => nomatch hz)), hce, hO.vm, hcl, hWs, hall, hf⟩⟩
  refine st1 _ ?_
  show Steps p.tables e below (T1.setTop { method := m, pc := pc + 3, locals := ls, stack := .ref T.heap.size :: rest, locked := none }) _
  jvm_step X₁.here [X₁.here.top, hexec, d3', Value.category]
  exact X₁.ldcString hexec (own := own) (text := text) (index := is) (a := sa) hown' hstr'.1 hstr'.2
    (g := { method := m, pc := pc + 4, locals := ls, stack := .ref T.heap.size :: .ref T.heap.size :: rest, locked := none }) rfl d4' _ hsteps
/-- 'throw new E("text")', the text by a wide index -/
theorem vx_throwSW {cc : ByteArray} {pc : Nat} (hexec : p.tables.exec = Jvm.exec) (hb : c.code = cc) (hl : l.stackTraces = false) {own cls text : String} {names : List String} {ik is ic mc ms sa : Nat} {A : Nat → Prop}
    (hown : s.vm.findClass own = some m.cls) (hcls : Bundle.fit cls = true) (hnames : ∀ n ∈ names, Bundle.fit n = true)
    (hk : (Cond.classLink own ik cls).before args s = true) (hini : (Cond.initialized cls).before args s = true) (hstr : vk_R own is text sa s) (hat : ∀ w ∈ vx_atS own ic cls names, w.before args s = true)
    (hgood : ∀ w ∈ Cond.classLink own ik cls :: Cond.initialized cls :: vx_atS own ic cls names, vx_ot w = true)
    (hU : vx_Zq Bundle.tN "UNASSIGNED_STACK" Bundle.steD A s s.heap) (hN : vx_Zq Bundle.tN "SUPPRESSED_SENTINEL" Bundle.listD A s s.heap) (hS : va_S A s.heap H locs) (hsize : ls.size = c.maxLocals)
    (d0 : decode cc pc = .ok (.new ik, 3)) (d3 : decode cc (pc + 3) = .ok (.dup, 1)) (d4 : decode cc (pc + 4) = .ok (.ldc_w is, 3)) (d7 : decode cc (pc + 7) = .ok (.invokespecial ic, 3)) (d10 : decode cc (pc + 10) = .ok (.athrow, 1))
    (hout : ∀ x ∈ c.exceptionTable.toList, covers x (pc + 10) = false)
    (hRframes : names.length + 3 < R.frames) (hRlocals : (rest.map fun v => v.category).sum + (13 * (names.length + 1) + 43) ≤ R.locals) (hRcells : cells + 1 ≤ R.cells) (hRslots : slots + 6 ≤ R.slots) (hlocks : meth.locks = false)
    (hx : ∀ t : State, s.vm.Alike t.vm → H.size ≤ t.heap.size → (∀ q : Nat, q < H.size → t.heap[q]? = H[q]?) → XC cls s t)
    (hf : ∀ z ∈ locs, free z.base) (hc : cells + 1 ≤ mc) (hs : slots + 6 ≤ ms) :
    W p l e R s m args below meth c H locs cells slots (vx_MQ below Qc XC args s mc ms free) (F0 m pc ls rest) := by
  intro T hT X
  have htr : e.platform.stackTraces = false := (show e.platform.stackTraces = l.stackTraces by rw [X.admits.platform]).trans hl
  have Y := vx_rebase X (R' := { frames := R.frames, locals := R.locals, cells := 1, slots := 6 }) (Nat.le_refl _) (Nat.le_refl _) hRcells hRslots
  obtain ⟨s', hA⟩ : ∃ z, z = (T.setVm s.vm).setFrames (.invoking m args :: below) := ⟨_, rfl⟩
  rw [← hA] at Y
  have hvm : s'.vm = s.vm := by rw [hA]; rfl
  have hhp : s'.heap = H := by rw [hA]; exact hT
  have hW0 : s.WarmedH s'.vm := by rw [hvm]; exact State.WarmedH.refl s
  have hat' : ∀ w ∈ vx_atS own ic cls names, w.before args s' = true := fun w hw => vx_ot_at hW0 hvm.symm (hgood w (List.mem_cons_of_mem _ (List.mem_cons_of_mem _ hw))) (hat w hw)
  have hk' : (Cond.classLink own ik cls).before args s' = true := vx_ot_at hW0 hvm.symm (hgood _ List.mem_cons_self) hk
  have hini' : (Cond.initialized cls).before args s' = true := vx_ot_at hW0 hvm.symm (hgood _ (List.mem_cons_of_mem _ List.mem_cons_self)) hini
  have hU' : vx_Zq Bundle.tN "UNASSIGNED_STACK" Bundle.steD A s' s'.heap := by rw [hhp]; exact vx_Zq.moved hW0.alike (hU.kept hS.2.1)
  have hN' : vx_Zq Bundle.tN "SUPPRESSED_SENTINEL" Bundle.listD A s' s'.heap := by rw [hhp]; exact vx_Zq.moved hW0.alike (hN.kept hS.2.1)
  have h : ∀ w ∈ Bundle.ownAtoms own ic cls names, w.before args s' = true := vx_own hat' (vx_isRefq hU'.1) (vx_isRefq hN'.1) hU'.2.word hN'.2.word
  have hown' : s'.vm.findClass own = some m.cls := by rw [hvm]; exact hown
  have hins : (Cond.instantiable cls 6).before args s' = true := h _ (by simp [Bundle.ownAtoms])
  obtain ⟨vm₁, cX, kX, hfX, hkX, -, -, X₁, st1⟩ := Y.newCold hexec (own := own) (C := cls) (index := ik) (n := 6) hown' hk' hins hini'
    (g := F0 m pc ls rest) rfl (by rw [hb]; exact d0) (Nat.le_refl _) (Nat.le_refl _)
  generalize hT1 : (T.setVm vm₁).pushCell { cls := cX, slots := kX.instanceTypes.map defaultValue, vm := .none } = T1 at X₁ st1
  have hcat : (Value.ref T.heap.size).category = 1 := rfl
  have hcellA : T1.heap[T.heap.size]? = some (freshCell cX kX) := by rw [← hT1]; exact State.heap_pushCell_size _ _
  have d3' : decode c.code (pc + 3) = .ok (.dup, 1) := by rw [hb]; exact d3
  have d4' : decode c.code (pc + 4) = .ok (.ldc_w is, 3) := by rw [hb]; exact d4
  have hstr' : vk_R own is text sa s' := vk_R.warm hW0 hstr
  obtain ⟨U, hsteps, hrun, hend, hW, hsame, ce, hce, hO⟩ := X₁.ctorThrowS hexec htr (own := own) (cls := cls) (names := names) (ic := ic) hown' hcls hnames h (fun x hx => nomatch hx) hfX hkX hcellA (by rw [hhp, hT]; exact Nat.le_refl _) (msg := .ref sa) rfl
    (g := { method := m, pc := pc + 7, locals := ls, stack := .ref sa :: .ref T.heap.size :: .ref T.heap.size :: rest, locked := none }) rfl hsize rfl rfl (rest := rest) rfl
    (by rw [hb]; exact d7) (by rw [hb]; exact d10) hout hRframes (by simp only [List.map_cons, List.sum_cons, hcat]; omega) hlocks
  obtain ⟨f1, f2⟩ := vx_frame hsame
  rw [hhp] at f1 f2
  have hWs : s.WarmedH U.vm := State.WarmedH.trans hW0 hW
  have hcl : s.vm.findClass cls = some ce.cls := by
    have h9 := hO.cls
    rw [hvm] at h9
    exact h9
  have hall : s.sameButNew ({ U with vm := s.vm } : State) locs mc ms := by
    subst hA
    obtain ⟨e1, e2⟩ := hsame
    rw [State.setFrames_setFrames] at e1
    have h2 : (T.setVm s.vm).sameButNew ({ U with vm := s.vm } : State) [] (0 + 1) (0 + 6) := ⟨e1, e2⟩
    have h3 := X.same.trans h2
    rw [List.append_nil] at h3
    exact h3.mono hc hs
  refine ⟨U, ?_, .threw T.heap.size, hrun, hend, Or.inr ⟨T.heap.size, rfl, cls, ce, locs, hx U hWs.alike f1 (fun q hq => f2 q hq (fun z hz => nomatch hz)), hce, hO.vm, hcl, hWs, hall, hf⟩⟩
  refine st1 _ ?_
  show Steps p.tables e below (T1.setTop { method := m, pc := pc + 3, locals := ls, stack := .ref T.heap.size :: rest, locked := none }) _
  jvm_step X₁.here [X₁.here.top, hexec, d3', Value.category]
  exact X₁.ldcStringW hexec (own := own) (text := text) (index := is) (a := sa) hown' hstr'.1 hstr'.2
    (g := { method := m, pc := pc + 4, locals := ls, stack := .ref T.heap.size :: .ref T.heap.size :: rest, locked := none }) rfl d4' _ hsteps
end Ends
section Bodies
variable {l : Launch}
theorem vx_ofW {y : MethodName} {ws ws' : List Cond} {rm : Room} {Pc : Array Value → State → Prop} {Qc : Array Value → State → Outcome → State → Prop} {XC : String → State → State → Prop} {mc ms : Nat} {free : Addr → Prop} {cc : ByteArray} {maxL : Nat} {ret : Option FieldType}
    (hy : plainName y.cls = true) (hw : ws = Cond.code y cc maxL ret :: ws')
    (body : ∀ p e s m args below meth c s₁, BodyLoose p l y (headSpec ws rm) cc maxL ret e s m args below meth c s₁ → c.maxLocals = maxL → (∀ x ∈ c.exceptionTable.toList, False) → Pc args s →
      W p l e (headSpec ws rm).room s m args below meth c s.heap [] 0 0 (vx_MQ below Qc XC args s mc ms free) (entryFrame m args maxL)) : vx_Met l y ws rm Pc Qc XC mc ms free := by
  refine MetFree.of_bodyS (code := cc) (maxLocals := maxL) (ret := ret) hy ?_ ?_
  · intro args s m h hn
    obtain ⟨meth, c, h1, h2, h3, h4, h5, h6, -, -⟩ := Cond.code_spec hn (atoms_spec (ws := ws) h _ (by rw [hw]; exact List.mem_cons_self))
    exact ⟨meth, c, h1, h2, h3, h4, h5, h6⟩
  · intro p e s m args below meth c s₁ B hml hP _
    have hh0 : s₁.heap = s.heap := by rw [B.state]; rfl
    have ht : ∀ x ∈ c.exceptionTable.toList, False := by
      obtain ⟨meth9, c9, h1, h2, -, -, -, -, h7, -⟩ := Cond.code_spec B.named (atoms_spec (ws := ws) B.pre _ (by rw [hw]; exact List.mem_cons_self))
      cases Option.some.inj (h1.symm.trans B.method)
      cases Option.some.inj (h2.symm.trans (Stand.of_body B).code)
      intro x hx
      rw [Array.isEmpty_iff.mp h7] at hx
      cases hx
    obtain ⟨t, a1, o, b1, b2, b3⟩ := body p e s m args below meth c s₁ B hml ht hP s₁ hh0 (Stand.of_body B)
    exact ⟨t, o, a1, b1, b2, b3⟩
/-- the table of a body with handlers -/
theorem vx_table {p : Program} {x y : MethodName} {S : Spec} {cc bytes : ByteArray} {maxL maxL' : Nat} {ret ret' : Option FieldType} {e : Env} {s s₁ : State} {m : MethodId} {args : Array Value} {below : List Frame} {meth : Method} {c : Code} {hh : List (Nat × Nat × Nat × Nat)}
    (B : BodyLoose p l y S cc maxL ret e s m args below meth c s₁) (h : (Cond.codeWith y bytes maxL' ret' hh).before args s = true) : c.exceptionTable.toList = tableOf hh := by
  obtain ⟨m9, meth9, c9, hn9, h1, h2, -, -, h6, -⟩ := Cond.codeWith_spec h
  cases Option.some.inj (hn9.symm.trans B.named)
  cases Option.some.inj (h1.symm.trans B.method)
  cases Option.some.inj (h2.symm.trans (Stand.of_body B).code)
  rw [← h6, table_eq]
end Bodies
end VXA
/-! ===== END ===== -/
/-! ===== BEGIN a static call of a method with an exception table ===== -/
section VXS
variable {p : Program} {l : Launch} {e : Env} {R : Room} {s : State} {m : MethodId} {args : Array Value} {below : List Frame} {meth : Method} {c : Code} {T : State} {H : Heap} {locs : List Loc} {cells slots : Nat}
abbrev vx_CSW (R : Room) (s : State) (args : Array Value) (own : String) (index : Nat) (y : MethodName) (bytes : ByteArray) (maxL : Nat) (ret : Option FieldType) (hh : List (Nat × Nat × Nat × Nat)) (ws : List Cond) (rm : Room) (mc ms n : Nat) : Prop :=
  (rm.cells = mc ∧ rm.slots = ms ∧ rm.frames + 1 ≤ R.frames ∧ 8 + (maxL + 11) + rm.locals ≤ R.locals ∧ (∀ w ∈ ws, ∀ (a' : Array Value) (U : State), s.WarmedH U.vm → w.before a' U = true) ∧ Cond.codeWith y bytes maxL ret hh ∈ ws) ∧
  (Cond.codeWith y bytes maxL ret hh).before args s = true ∧ (Cond.initialized y.cls).before args s = true ∧ (y.cls ≠ "java/lang/invoke/MethodHandle" ∧ y.cls ≠ "java/lang/invoke/VarHandle") ∧
  (∀ sig, parseMethodDescriptor y.desc = some sig → n = sig.parameters.length) ∧ (Cond.methodLink own index y).before args s = true ∧ (Cond.static y).before args s = true
theorem vx_cwSW {own : String} {index maxL mc ms : Nat} {y : MethodName} {bytes : ByteArray} {ret : Option FieldType} {hh : List (Nat × Nat × Nat × Nat)} {Ts ws ws' : List Cond} {rm : Room} (n : Nat) (ht : ∀ w ∈ Ts, w.before args s = true) (hT : GoodIn Ts (va_wsS own index y ws)) (hw : ws = Cond.codeWith y bytes maxL ret hh :: ws') (hrc : rm.cells = mc) (hrs : rm.slots = ms)
    (hd : y.cls ≠ "java/lang/invoke/MethodHandle" ∧ y.cls ≠ "java/lang/invoke/VarHandle" ∧ (parseMethodDescriptor y.desc).map (fun d => d.parameters.length) = some n) (hR : rm.frames + 1 ≤ R.frames ∧ 8 + (maxL + 11) + rm.locals ≤ R.locals) :
    vx_CSW R s args own index y bytes maxL ret hh ws rm mc ms n := by
  have ok : ∀ w ∈ va_wsS own index y ws, w.before args s = true := fun w h => ht w (hT w h).1
  have hG : GoodIn Ts ws := fun w h => hT w (by unfold va_wsS; exact List.mem_append_right _ h)
  have hc : Cond.codeWith y bytes maxL ret hh ∈ ws := by rw [hw]; exact List.mem_cons_self
  refine ⟨⟨hrc, hrs, hR.1, hR.2, pay_in ht hG, hc⟩, ht _ (hG _ hc).1, ok _ (by simp [va_wsS]), ⟨hd.1, hd.2.1⟩, fun sig h => ?_, ok _ (by simp [va_wsS]), ok _ (by simp [va_wsS])⟩
  have h2 := hd.2.2
  rw [h] at h2
  exact (Option.some.inj h2).symm
theorem vx_callSW (X : Stand p l e R s m args below meth c T locs cells slots) (hexec : p.tables.exec = Jvm.exec) {own : String} {index : Nat} {y : MethodName} {bytes : ByteArray} {maxL : Nat} {ret : Option FieldType} {hh : List (Nat × Nat × Nat × Nat)}
    (hown : s.vm.findClass own = some m.cls) (hlink : (Cond.methodLink own index y).before args s = true) (hstat : (Cond.static y).before args s = true) (hinit : (Cond.initialized y.cls).before args s = true)
    (hcode : (Cond.codeWith y bytes maxL ret hh).before args s = true) (hy : y.cls ≠ "java/lang/invoke/MethodHandle" ∧ y.cls ≠ "java/lang/invoke/VarHandle")
    {W9 : Nat} {Pre : Pt → Array Value → Prop} {Post : Pt → Array Value → Option Value → Pt → Prop} (hK : Back l R p e below s args y 3 W9 Pre Post)
    {g : JFrame} (hg : g.method = m) (hsize : g.locals.size = c.maxLocals) {argsL rest : List Value} (hlen : ∀ sig, parseMethodDescriptor y.desc = some sig → argsL.length = sig.parameters.length)
    (hstack : g.stack = argsL.reverse ++ rest) (hW : 2 * g.monitorRoom + (rest.map fun v => v.category).sum ≤ W9) (hdg : decode c.code g.pc = .ok (.invokestatic index, 3))
    (hpre : ∀ vm₁, s.WarmedH vm₁ → Pre ⟨T.setVm vm₁, locs, cells, slots⟩ argsL.toArray) :
    ∃ (v : Option Value) (vm₁ : Vm) (B : Pt), s.WarmedH vm₁ ∧ Stand p l e R s m args below meth c B.U B.locs B.cells B.slots ∧ Post ⟨T.setVm vm₁, locs, cells, slots⟩ argsL.toArray v B ∧
      ∀ target, Steps p.tables e below (B.U.setTop { g with pc := g.pc + 3, stack := v.toList ++ rest }) target → Steps p.tables e below (T.setTop g) target := by
  obtain ⟨mk, methM, cM, hnamed, hmethM, -, -, -, -, -, -, hsigM⟩ := Cond.codeWith_spec hcode
  have hstatic : methM.isStatic = true := Cond.static_spec hnamed hmethM hstat
  obtain ⟨kP, hkP, -⟩ := className_of_methodNamed hnamed
  have hinitP : kP.init = .initialized := Cond.initialized_spec (findClass_of_methodNamed hnamed) hkP hinit
  obtain ⟨vm₁, X₁, hstep₁⟩ := X.invokestatic hexec hown hlink hnamed hmethM hstatic hkP hinitP hy (g := g) hg (argsL := argsL) (rest := rest) (hlen _ hsigM) hstack hdg
  obtain ⟨v, B, X', hpost, hsteps⟩ := hK m meth c ⟨T.setVm vm₁, locs, cells, slots⟩ { g with stack := rest } (.invokestatic index) mk argsL.toArray X₁ hg hsize hdg hW (X₁.named hnamed) (hpre vm₁ X₁.warmed)
  exact ⟨v, vm₁, B, X₁.warmed, X', hpost, fun target h => hstep₁ _ fun acts => by rw [doInvoke_state]; exact hsteps.trans h⟩
theorem vx_runSW {y : MethodName} {bytes cc : ByteArray} {maxL nL mc ms n index : Nat} {ret : Option FieldType} {hh : List (Nat × Nat × Nat × Nat)} {ws : List Cond} {rm : Room} {Pc : Array Value → State → Prop} {Qc : Array Value → State → Outcome → State → Prop} {free : Addr → Prop} {Ts : List Cond} {own : String} {As rest : List Value} {g : JFrame}
    (S : CallFix p m c cc nL s args Ts own) (hM : Met l y ws rm Pc Qc mc ms free) (cw : vx_CSW R s args own index y bytes maxL ret hh ws rm mc ms n) (hp : PreS s H Pc As)
    (hg : g.method = m) (hn : As.length = n) (hsize : g.locals.size = nL) (hstack : g.stack = As.reverse ++ rest) (hW : 2 * g.monitorRoom + (rest.map fun v => v.category).sum ≤ 8) (hdg : decode cc g.pc = .ok (.invokestatic index, 3)) (hf : cells + mc ≤ R.cells ∧ slots + ms ≤ R.slots) :
    va_Run p l e R s m args below meth c H locs cells slots mc ms g rest (Qc As.toArray) (free) := by
  obtain ⟨⟨hrc, hrs, hfr, hlo, hws, hcw⟩, hcode, hini, hy, hlen, hl, hstt⟩ := cw
  have hK : Back l R p e below s args y 3 8 (PreOf R mc ms Pc) (PostOf Qc mc ms free) := va_backW (hh := hh) (bytes := bytes) (maxL := maxL) (ret := ret) hM hp.1 hrc hrs hfr hlo hws hcw (fun a' U hW => word_at hW (Or.inl (by first | rfl | simp [Cond.onTables, Cond.keeps, Cond.steady])) hini)
  obtain ⟨hx, hb, hml, ho, -⟩ := S
  intro T hT X
  obtain ⟨v, vm₁, ⟨U', l2, c2, s2⟩, hW₁, X', ⟨g', mk, t, L, e1, e2, hq, h1, hL, h2, h3⟩, st⟩ := vx_callSW X hx (hh := hh) (bytes := bytes) (maxL := maxL) (ret := ret) ho hl hstt hini hcode hy hK hg (hsize.trans hml.symm) (argsL := As) (rest := rest) (fun sig h => hn.trans (hlen sig h)) hstack hW (by rw [hb]; exact hdg)
    (fun vm₁ hW₁ => ⟨hf.1, hf.2, hp.2 (T.setVm vm₁) hT hW₁⟩)
  dsimp only [Pt.U, Pt.locs, Pt.cells, Pt.slots] at X' e1 e2 h1 h2 h3 st
  subst h1; subst h2; subst h3
  exact ⟨v, (T.setVm vm₁).calling g' mk As.toArray, t, U', L, hT, X', hL, e1, e2, hq, st⟩
/-- not caught here, past rows that name other classes: it goes on to the caller -/
theorem vx_outP {p : Program} {l : Launch} {e : Env} {R : Room} {s : State} {m : MethodId} {args : Array Value} {below : List Frame} {meth : Method} {c : Code} {H : Heap} {locs : List Loc} {cells slots : Nat} {free : Addr → Prop} {ls : Array Slot} {rest : List Value} {Qc : Array Value → State → Outcome → State → Prop} {XC : String → State → State → Prop}
    {pc : Nat} {own E : String} {ce : Cell} {q : Addr} {mc ms : Nat} (hown : s.vm.findClass own = some m.cls) (hlocks : meth.locks = false)
    (hpass : ∀ z ∈ c.exceptionTable.toList, covers z pc = false ∨ (z.catchType ≠ 0 ∧ ∃ nm : String, (Cond.classLink own z.catchType nm).before args s = true ∧ va_Nc E nm s)) (hcell : H[q]? = some ce) (hv : ce.vm = .none) (hcl : s.vm.findClass E = some ce.cls)
    (hx : ∀ t : State, t.heap = H → s.vm.Alike t.vm → XC E s t) (hf : ∀ z ∈ locs, free z.base) (hc : cells ≤ mc) (hs : slots ≤ ms) :
    vx_W p l e R s m args below meth c H locs cells slots (vx_MQ below Qc XC args s mc ms free) (F0 m pc ls rest) q := by
  intro T hT X
  have hpl : e.platform.magicAccessors = ({} : Platform).magicAccessors := by rw [X.admits.platform]
  obtain ⟨vm', hW', X', st⟩ := X.outThrough hlocks q (g := F0 m pc ls rest) rfl rfl rfl (cell := ce) (by rw [hT]; exact hcell) (by rw [hv]; rfl)
    (by obtain ⟨k9, h9, -⟩ := Vm.findClass_spec hcl; exact ⟨k9, h9⟩) (fun z hz => by
      rcases hpass z hz with h | ⟨hz0, nm, hl1, hn1⟩
      · exact Or.inl h
      · obtain ⟨c6, hc6, hcl6⟩ := Cond.classLink_spec hown hl1 e.platform hpl
        obtain ⟨a8, b8, h1, h2, h3⟩ := hn1
        cases Option.some.inj (h1.symm.trans hcl)
        cases Option.some.inj (h2.symm.trans hc6)
        exact Or.inr ⟨hz0, _, hcl6, h3⟩)
  obtain ⟨g₀, hfr⟩ := X'.frames_eq
  have hcell9 : ((T.setVm vm').setFrames (.throwing q :: below)).heap[q]? = some ce := by
    show T.heap[q]? = some ce
    rw [hT]; exact hcell
  have hend : Ended ((T.setVm vm').setFrames (.throwing q :: below)) below (.threw q) := State.frames_setFrames _ (State.cur_lt_of_frames hfr)
  refine ⟨(T.setVm vm').setFrames (.throwing q :: below), ?_, .threw q, X'.here.running, hend, Or.inr ⟨q, rfl, E, ce, locs, hx _ hT (X'.ends _).1.alike, hcell9, hv, hcl, (X'.ends _).1, (X'.ends _).2.mono hc hs, hf⟩⟩
  rw [X.pushThrowing_eq]
  exact st
/-- a thing of a world lies in the heap -/
theorem vx_lt {D : va_G} {cl : List vw_C} {ws : va_W} {H1 : Heap} (h : va_P D cl ws H1) {k : Nat} {q : Nat × va_E} (hk : ws[k]? = some q) : q.1 < H1.size := (h k q hk).lt
end VXS
/-! ===== END ===== -/
/-! ===== BEGIN methods with a table of their own: called by a name, returning or throwing ===== -/
section VXH
/-! vx_backW, vx_callVX, vx_callSX, vx_callVW, vx_runVW, vx_runVX, vx_runSX, vx_ofWH follow the same proofs as their sisters above (Free/Laws.lean, Shelf42/LK1.lean); vx_outP calls Shelf42/NT130.lean (outThrough). -/
section
variable {l : Launch} {R : Room} {p : Program} {e : Env} {below : List Frame} {s : State} {sargs : Array Value} {y : MethodName} {len W9 : Nat}
theorem vx_backW {ws : List Cond} {rm : Room} {Pc : Array Value → State → Prop} {Qc : Array Value → State → Outcome → State → Prop} {XC : String → State → State → Prop} {mc ms : Nat} {free : Addr → Prop} {bytes : ByteArray} {maxL : Nat} {ret : Option FieldType} {hh : List (Nat × Nat × Nat × Nat)}
    (hM : vx_Met l y ws rm Pc Qc XC mc ms free) (hblind : FrameBlind Pc) (hrc : rm.cells = mc) (hrs : rm.slots = ms)
    (hframes : rm.frames + 1 ≤ R.frames) (hlocals : W9 + (maxL + 11) + rm.locals ≤ R.locals)
    (hws : ∀ w ∈ ws, ∀ a' U, s.WarmedH U.vm → w.before a' U = true) (hcode : Cond.codeWith y bytes maxL ret hh ∈ ws) (hinit : ∀ a' U, s.WarmedH U.vm → (Cond.initialized y.cls).before a' U = true) :
    vx_Back l R p e below s sargs y len W9 (PreOf R mc ms Pc) (PostOf Qc mc ms free) (vx_Post XC mc ms free) := by
  intro m meth c A g ig mk a X hg hsize hdg hW hn hp
  have h1 : (headSpec ws rm).pre.before a A.U = true := atoms_intro fun w hw => hws w hw _ _ X.warmed
  have h2 : (Cond.codeWith y bytes maxL ret hh).before a A.U = true := hws _ hcode _ _ X.warmed
  have h3 : (Cond.initialized y.cls).before a A.U = true := hinit _ _ X.warmed
  have h4 : A.cells + (headSpec ws rm).room.cells ≤ R.cells := by rw [show (headSpec ws rm).room.cells = mc from hrc]; exact hp.1
  have h5 : A.slots + (headSpec ws rm).room.slots ≤ R.slots := by rw [show (headSpec ws rm).room.slots = ms from hrs]; exact hp.2.1
  have hPc : Pc a (A.U.calling g mk a) := hblind _ _ _ _ hp.2.2
  obtain ⟨U, Ls, c0, s0⟩ := A
  dsimp only [Pt.U, Pt.locs, Pt.cells, Pt.slots] at h1 h2 h3 h4 h5 X hn hPc ⊢
  obtain ⟨m9, methY, cY, hn9, hmY, hcY, -, hlY, -⟩ := Cond.codeWith_spec h2
  cases Option.some.inj (hn9.symm.trans hn)
  obtain ⟨kY, hkY, -⟩ := className_of_methodNamed hn
  have hinitY : kY.init = .initialized := Cond.initialized_spec (findClass_of_methodNamed hn) hkY h3
  have h : At U g.method c below := by rw [hg]; exact X.here
  have hlocals9 : W9 + (maxL + 11) + (headSpec ws rm).room.locals ≤ R.locals := hlocals
  have happ : (headSpec ws rm).appliesLoose y e.platform (U.calling g mk a) = true :=
    Spec.appliesLoose_calling (g := g) h hdg hn hkY hinitY
      (X.room_calling (g := g) (R' := (headSpec ws rm).room) hsize hmY hcY hframes (by rw [hlY]; omega) h4 h5) h1
  obtain ⟨mid, hmid⟩ := h.above
  have hfr : (U.setTop g).frames = (.java g :: mid) ++ below := by rw [State.frames_setTop' g h.top, hmid]; rfl
  obtain ⟨o, s₂, hsteps, -, hend, hq⟩ := Steps.callFree hM p X.admits X.cas X.clock (acts := []) hfr happ hPc trivial
  have hq' : vx_Q Qc XC mc ms free a (U.calling g mk a) o s₂ := hq
  rw [State.frames_setTop' g h.top] at hend
  obtain ⟨g₀, hg0⟩ := Option.isSome_iff_exists.mp h.top
  obtain ⟨r, hr⟩ := State.topJava?_eq_some.mp hg0
  have hr' : (({ U with heap := s₂.heap, slotsUsed := s₂.slotsUsed } : State).setVm s₂.vm).frames = .java g₀ :: r := hr
  rcases hq' with ⟨hqc, L, hfe, hL⟩ | ⟨q, rfl, E, ce, L, hx, hce, hcv, hcl, hW₂, hsm, hL⟩
  · obtain ⟨⟨v, rfl⟩, hW₂, e2, q2, q3, q4, q5, q6⟩ := id hfe
    have e3 : s₂ = ({ (U.calling g mk a).setFrames s₂.frames with heap := s₂.heap, slotsUsed := s₂.slotsUsed } : State).setVm s₂.vm := by
      have : s₂ = ({ s₂ with vm := (U.calling g mk a).vm } : State).setVm s₂.vm := rfl
      rw [e2] at this
      exact this
    obtain ⟨c₂, i₂, len₂, hc₂, hd₂, hf₂⟩ := hend
    have hW' : U.WarmedH s₂.vm := hW₂
    have hcc : c₂ = c := by
      have h1 : s₂.code? g.method = U.code? g.method := by
        rw [State.code?_eq, State.code?_eq, hW'.alike.method?]
      exact Option.some.inj (hc₂.symm.trans (h1.trans h.code))
    subst hcc
    have hlen : len₂ = len := by rw [hdg] at hd₂; cases hd₂; rfl
    subst hlen
    have hs₂ : s₂ = (({ U with heap := s₂.heap, slotsUsed := s₂.slotsUsed } : State).setVm s₂.vm).setTop { g with pc := g.pc + len₂, stack := v.toList ++ g.stack } := by
      refine e3.trans ?_
      rw [hf₂, State.calling_eq h.top, State.setFrames_setFrames, State.setTop_of_frames _ hr', hr]
      rfl
    have hsame : U.sameButNew ({ U with heap := s₂.heap, slotsUsed := s₂.slotsUsed } : State) L mc ms := by
      refine ⟨?_, q2, q3, q4, q5, q6⟩
      obtain ⟨t, ht, -⟩ := State.frames_cons hr
      show ({ U with heap := s₂.heap, slotsUsed := s₂.slotsUsed } : State) = { U.setFrames U.frames with heap := s₂.heap, slotsUsed := s₂.slotsUsed }
      rw [State.setFrames_self ht]
    subst hg
    refine Or.inl ⟨v, ⟨(({ U with heap := s₂.heap, slotsUsed := s₂.slotsUsed } : State).setVm s₂.vm), Ls ++ L, c0 + mc, s0 + ms⟩,
      ⟨X.admits, X.cas, X.clock, X.frames, X.room, X.hears, X.method, X.code, (X.here.setHeapUsed s₂.heap s₂.slotsUsed).setVm hW'.alike, X.tail, State.WarmedH.trans X.warmed hW', X.limits, X.bytes, X.same.trans (hsame.setVm s.vm)⟩,
      ⟨g, mk, s₂, L, rfl, rfl, hqc, rfl, hL, rfl, rfl⟩, ?_⟩
    show Steps p.tables e below _ ((({ U with heap := s₂.heap, slotsUsed := s₂.slotsUsed } : State).setVm s₂.vm).setTop { g with pc := g.pc + len₂, stack := v.toList ++ g.stack })
    rw [← hs₂]
    exact hsteps
  · obtain ⟨e2, q2, q3, q4, q5, q6⟩ := id hsm
    have e3 : s₂ = ({ (U.calling g mk a).setFrames s₂.frames with heap := s₂.heap, slotsUsed := s₂.slotsUsed } : State).setVm s₂.vm := by
      have : s₂ = ({ s₂ with vm := (U.calling g mk a).vm } : State).setVm s₂.vm := rfl
      rw [e2] at this
      exact this
    have hf₂ : s₂.frames = .throwing q :: .java g :: U.frames.tail := hend
    have hW' : U.WarmedH s₂.vm := hW₂
    have hs₂ : s₂ = ((({ U with heap := s₂.heap, slotsUsed := s₂.slotsUsed } : State).setVm s₂.vm).setTop g).pushFrame (.throwing q) := by
      refine e3.trans ?_
      rw [hf₂, State.calling_eq h.top, State.setFrames_setFrames, State.pushFrame, State.frames_setTop _ hr', State.setTop_of_frames _ hr', State.setFrames_setFrames, hr]
      rfl
    have hsame : U.sameButNew ({ U with heap := s₂.heap, slotsUsed := s₂.slotsUsed } : State) L mc ms := by
      refine ⟨?_, q2, q3, q4, q5, q6⟩
      obtain ⟨t, ht, -⟩ := State.frames_cons hr
      show ({ U with heap := s₂.heap, slotsUsed := s₂.slotsUsed } : State) = { U.setFrames U.frames with heap := s₂.heap, slotsUsed := s₂.slotsUsed }
      rw [State.setFrames_self ht]
    subst hg
    refine Or.inr ⟨q, ⟨(({ U with heap := s₂.heap, slotsUsed := s₂.slotsUsed } : State).setVm s₂.vm), Ls ++ L, c0 + mc, s0 + ms⟩,
      ⟨X.admits, X.cas, X.clock, X.frames, X.room, X.hears, X.method, X.code, (X.here.setHeapUsed s₂.heap s₂.slotsUsed).setVm hW'.alike, X.tail, State.WarmedH.trans X.warmed hW', X.limits, X.bytes, X.same.trans (hsame.setVm s.vm)⟩,
      ⟨g, mk, s₂, L, E, ce, rfl, rfl, hx, hce, hcv, hcl, rfl, hL, rfl, rfl⟩, ?_⟩
    show Steps p.tables e below _ (((({ U with heap := s₂.heap, slotsUsed := s₂.slotsUsed } : State).setVm s₂.vm).setTop g).pushFrame (.throwing q))
    rw [← hs₂]
    exact hsteps
end
variable {p : Program} {l : Launch} {e : Env} {R : Room} {s : State} {m : MethodId} {args : Array Value} {below : List Frame} {meth : Method} {c : Code} {T : State} {H : Heap} {locs : List Loc} {cells slots : Nat}
theorem vx_callVX (X : Stand p l e R s m args below meth c T locs cells slots) (hexec : p.tables.exec = Jvm.exec) {own C : String} {index : Nat} {y : MethodName} {bytes : ByteArray} {maxL : Nat} {ret : Option FieldType} {hh : List (Nat × Nat × Nat × Nat)}
    (hown : s.vm.findClass own = some m.cls) (hlink : (Cond.methodLink own index y).before args s = true) (hinst : (Cond.instanceMethod y).before args s = true) (hsel : (Cond.selects C y y).before args s = true)
    (hcode : (Cond.codeWith y bytes maxL ret hh).before args s = true) (hy : y.cls ≠ "java/lang/invoke/MethodHandle" ∧ y.cls ≠ "java/lang/invoke/VarHandle")
    {W9 : Nat} {Pre : Pt → Array Value → Prop} {Post : Pt → Array Value → Option Value → Pt → Prop} {PostX : Pt → Array Value → Addr → Pt → Prop} (hK : vx_Back l R p e below s args y 3 W9 Pre Post PostX)
    {b : Addr} {cellB : Cell} (hcell : T.heap[b]? = some cellB) (hobj : cellB.vm.isStatics = false) (hcls : s.vm.findClass C = some cellB.cls)
    {g : JFrame} (hg : g.method = m) (hsize : g.locals.size = c.maxLocals) {argsL rest : List Value} (hlen : ∀ sig, parseMethodDescriptor y.desc = some sig → argsL.length = sig.parameters.length)
    (hstack : g.stack = argsL.reverse ++ .ref b :: rest) (hW : 2 * g.monitorRoom + (rest.map fun v => v.category).sum ≤ W9) (hdg : decode c.code g.pc = .ok (.invokevirtual index, 3))
    (hpre : ∀ vm₁, s.WarmedH vm₁ → Pre ⟨T.setVm vm₁, locs, cells, slots⟩ (Value.ref b :: argsL).toArray) :
    (∃ (v : Option Value) (vm₁ : Vm) (B : Pt), s.WarmedH vm₁ ∧ Stand p l e R s m args below meth c B.U B.locs B.cells B.slots ∧ Post ⟨T.setVm vm₁, locs, cells, slots⟩ (Value.ref b :: argsL).toArray v B ∧
      ∀ target, Steps p.tables e below (B.U.setTop { g with pc := g.pc + 3, stack := v.toList ++ rest }) target → Steps p.tables e below (T.setTop g) target) ∨
    (∃ (q : Addr) (vm₁ : Vm) (B : Pt), s.WarmedH vm₁ ∧ Stand p l e R s m args below meth c B.U B.locs B.cells B.slots ∧ PostX ⟨T.setVm vm₁, locs, cells, slots⟩ (Value.ref b :: argsL).toArray q B ∧
      Steps p.tables e below (T.setTop g) ((B.U.setTop { g with stack := rest }).pushFrame (.throwing q))) := by
  obtain ⟨mk, methM, hnamed, hmethM, hstM, habM⟩ := Cond.instanceMethod_spec hinst
  obtain ⟨m8, methM', cM, hn8, hmethM', -, -, -, -, -, -, hsigM⟩ := Cond.codeWith_spec hcode
  cases Option.some.inj (hn8.symm.trans hnamed)
  cases hmethM.symm.trans hmethM'
  obtain ⟨c2, r2, m2, q1, q2, q3, q4, kP, hkP, hkPi⟩ := Cond.selects_spec hsel
  cases hcls.symm.trans q1
  cases (State.methodFound?_of_named hnamed hy).symm.trans q2
  cases hnamed.symm.trans q3
  have hselP : selectMethod e.platform s.vm cellB.cls mk = .method mk := by rw [Launch.admits_selectMethod X.admits]; exact q4
  obtain ⟨vm₁, X₁, hstep₁⟩ := X.invokevirtual hexec hown hlink hnamed hmethM hstM hkP hkPi hy (a := b) (cell := cellB) hcell
    (fun z h => by rw [h] at hobj; cases hobj) hselP hmethM habM hkP hkPi (g := g) hg (argsL := argsL) (rest := rest) (hlen _ hsigM) hstack hdg
  rcases hK m meth c ⟨T.setVm vm₁, locs, cells, slots⟩ { g with stack := rest } (.invokevirtual index) mk (Value.ref b :: argsL).toArray X₁ hg hsize hdg hW (X₁.named hnamed) (hpre vm₁ X₁.warmed) with ⟨v, B, X', hpost, hsteps⟩ | ⟨q, B, X', hpost, hsteps⟩
  · exact Or.inl ⟨v, vm₁, B, X₁.warmed, X', hpost, fun target h => hstep₁ _ fun acts => by rw [doInvoke_state]; exact hsteps.trans h⟩
  · exact Or.inr ⟨q, vm₁, B, X₁.warmed, X', hpost, hstep₁ _ fun acts => by rw [doInvoke_state]; exact hsteps⟩
theorem vx_callSX (X : Stand p l e R s m args below meth c T locs cells slots) (hexec : p.tables.exec = Jvm.exec) {own : String} {index : Nat} {y : MethodName} {bytes : ByteArray} {maxL : Nat} {ret : Option FieldType} {hh : List (Nat × Nat × Nat × Nat)}
    (hown : s.vm.findClass own = some m.cls) (hlink : (Cond.methodLink own index y).before args s = true) (hstat : (Cond.static y).before args s = true) (hinit : (Cond.initialized y.cls).before args s = true)
    (hcode : (Cond.codeWith y bytes maxL ret hh).before args s = true) (hy : y.cls ≠ "java/lang/invoke/MethodHandle" ∧ y.cls ≠ "java/lang/invoke/VarHandle")
    {W9 : Nat} {Pre : Pt → Array Value → Prop} {Post : Pt → Array Value → Option Value → Pt → Prop} {PostX : Pt → Array Value → Addr → Pt → Prop} (hK : vx_Back l R p e below s args y 3 W9 Pre Post PostX)
    {g : JFrame} (hg : g.method = m) (hsize : g.locals.size = c.maxLocals) {argsL rest : List Value} (hlen : ∀ sig, parseMethodDescriptor y.desc = some sig → argsL.length = sig.parameters.length)
    (hstack : g.stack = argsL.reverse ++ rest) (hW : 2 * g.monitorRoom + (rest.map fun v => v.category).sum ≤ W9) (hdg : decode c.code g.pc = .ok (.invokestatic index, 3))
    (hpre : ∀ vm₁, s.WarmedH vm₁ → Pre ⟨T.setVm vm₁, locs, cells, slots⟩ argsL.toArray) :
    (∃ (v : Option Value) (vm₁ : Vm) (B : Pt), s.WarmedH vm₁ ∧ Stand p l e R s m args below meth c B.U B.locs B.cells B.slots ∧ Post ⟨T.setVm vm₁, locs, cells, slots⟩ argsL.toArray v B ∧
      ∀ target, Steps p.tables e below (B.U.setTop { g with pc := g.pc + 3, stack := v.toList ++ rest }) target → Steps p.tables e below (T.setTop g) target) ∨
    (∃ (q : Addr) (vm₁ : Vm) (B : Pt), s.WarmedH vm₁ ∧ Stand p l e R s m args below meth c B.U B.locs B.cells B.slots ∧ PostX ⟨T.setVm vm₁, locs, cells, slots⟩ argsL.toArray q B ∧
      Steps p.tables e below (T.setTop g) ((B.U.setTop { g with stack := rest }).pushFrame (.throwing q))) := by
  obtain ⟨mk, methM, cM, hnamed, hmethM, -, -, -, -, -, -, hsigM⟩ := Cond.codeWith_spec hcode
  have hstatic : methM.isStatic = true := Cond.static_spec hnamed hmethM hstat
  obtain ⟨kP, hkP, -⟩ := className_of_methodNamed hnamed
  have hinitP : kP.init = .initialized := Cond.initialized_spec (findClass_of_methodNamed hnamed) hkP hinit
  obtain ⟨vm₁, X₁, hstep₁⟩ := X.invokestatic hexec hown hlink hnamed hmethM hstatic hkP hinitP hy (g := g) hg (argsL := argsL) (rest := rest) (hlen _ hsigM) hstack hdg
  rcases hK m meth c ⟨T.setVm vm₁, locs, cells, slots⟩ { g with stack := rest } (.invokestatic index) mk argsL.toArray X₁ hg hsize hdg hW (X₁.named hnamed) (hpre vm₁ X₁.warmed) with ⟨v, B, X', hpost, hsteps⟩ | ⟨q, B, X', hpost, hsteps⟩
  · exact Or.inl ⟨v, vm₁, B, X₁.warmed, X', hpost, fun target h => hstep₁ _ fun acts => by rw [doInvoke_state]; exact hsteps.trans h⟩
  · exact Or.inr ⟨q, vm₁, B, X₁.warmed, X', hpost, hstep₁ _ fun acts => by rw [doInvoke_state]; exact hsteps⟩
theorem vx_callVW (X : Stand p l e R s m args below meth c T locs cells slots) (hexec : p.tables.exec = Jvm.exec) {own C : String} {index : Nat} {y : MethodName} {bytes : ByteArray} {maxL : Nat} {ret : Option FieldType} {hh : List (Nat × Nat × Nat × Nat)}
    (hown : s.vm.findClass own = some m.cls) (hlink : (Cond.methodLink own index y).before args s = true) (hinst : (Cond.instanceMethod y).before args s = true) (hsel : (Cond.selects C y y).before args s = true)
    (hcode : (Cond.codeWith y bytes maxL ret hh).before args s = true) (hy : y.cls ≠ "java/lang/invoke/MethodHandle" ∧ y.cls ≠ "java/lang/invoke/VarHandle")
    {W9 : Nat} {Pre : Pt → Array Value → Prop} {Post : Pt → Array Value → Option Value → Pt → Prop} (hK : Back l R p e below s args y 3 W9 Pre Post)
    {b : Addr} {cellB : Cell} (hcell : T.heap[b]? = some cellB) (hobj : cellB.vm.isStatics = false) (hcls : s.vm.findClass C = some cellB.cls)
    {g : JFrame} (hg : g.method = m) (hsize : g.locals.size = c.maxLocals) {argsL rest : List Value} (hlen : ∀ sig, parseMethodDescriptor y.desc = some sig → argsL.length = sig.parameters.length)
    (hstack : g.stack = argsL.reverse ++ .ref b :: rest) (hW : 2 * g.monitorRoom + (rest.map fun v => v.category).sum ≤ W9) (hdg : decode c.code g.pc = .ok (.invokevirtual index, 3))
    (hpre : ∀ vm₁, s.WarmedH vm₁ → Pre ⟨T.setVm vm₁, locs, cells, slots⟩ (Value.ref b :: argsL).toArray) :
    ∃ (v : Option Value) (vm₁ : Vm) (B : Pt), s.WarmedH vm₁ ∧ Stand p l e R s m args below meth c B.U B.locs B.cells B.slots ∧ Post ⟨T.setVm vm₁, locs, cells, slots⟩ (Value.ref b :: argsL).toArray v B ∧
      ∀ target, Steps p.tables e below (B.U.setTop { g with pc := g.pc + 3, stack := v.toList ++ rest }) target → Steps p.tables e below (T.setTop g) target := by
  obtain ⟨mk, methM, hnamed, hmethM, hstM, habM⟩ := Cond.instanceMethod_spec hinst
  obtain ⟨m8, methM', cM, hn8, hmethM', -, -, -, -, -, -, hsigM⟩ := Cond.codeWith_spec hcode
  cases Option.some.inj (hn8.symm.trans hnamed)
  cases hmethM.symm.trans hmethM'
  obtain ⟨c2, r2, m2, q1, q2, q3, q4, kP, hkP, hkPi⟩ := Cond.selects_spec hsel
  cases hcls.symm.trans q1
  cases (State.methodFound?_of_named hnamed hy).symm.trans q2
  cases hnamed.symm.trans q3
  have hselP : selectMethod e.platform s.vm cellB.cls mk = .method mk := by rw [Launch.admits_selectMethod X.admits]; exact q4
  obtain ⟨vm₁, X₁, hstep₁⟩ := X.invokevirtual hexec hown hlink hnamed hmethM hstM hkP hkPi hy (a := b) (cell := cellB) hcell
    (fun z h => by rw [h] at hobj; cases hobj) hselP hmethM habM hkP hkPi (g := g) hg (argsL := argsL) (rest := rest) (hlen _ hsigM) hstack hdg
  obtain ⟨v, B, X', hpost, hsteps⟩ := hK m meth c ⟨T.setVm vm₁, locs, cells, slots⟩ { g with stack := rest } (.invokevirtual index) mk (Value.ref b :: argsL).toArray X₁ hg hsize hdg hW (X₁.named hnamed) (hpre vm₁ X₁.warmed)
  exact ⟨v, vm₁, B, X₁.warmed, X', hpost, fun target h => hstep₁ _ fun acts => by rw [doInvoke_state]; exact hsteps.trans h⟩
abbrev vx_CVW (R : Room) (s : State) (args : Array Value) (own C : String) (index : Nat) (y : MethodName) (bytes : ByteArray) (maxL : Nat) (ret : Option FieldType) (hh : List (Nat × Nat × Nat × Nat)) (ws : List Cond) (rm : Room) (mc ms n : Nat) : Prop :=
  (rm.cells = mc ∧ rm.slots = ms ∧ rm.frames + 1 ≤ R.frames ∧ 8 + (maxL + 11) + rm.locals ≤ R.locals ∧ (∀ w ∈ ws, ∀ (a' : Array Value) (U : State), s.WarmedH U.vm → w.before a' U = true) ∧ Cond.codeWith y bytes maxL ret hh ∈ ws) ∧
  (Cond.codeWith y bytes maxL ret hh).before args s = true ∧ (Cond.initialized y.cls).before args s = true ∧ (y.cls ≠ "java/lang/invoke/MethodHandle" ∧ y.cls ≠ "java/lang/invoke/VarHandle") ∧
  (∀ sig, parseMethodDescriptor y.desc = some sig → n = sig.parameters.length) ∧ (Cond.methodLink own index y).before args s = true ∧ (Cond.instanceMethod y).before args s = true ∧ (Cond.selects C y y).before args s = true
theorem vx_cwVW {own C : String} {index maxL mc ms : Nat} {y : MethodName} {bytes : ByteArray} {ret : Option FieldType} {hh : List (Nat × Nat × Nat × Nat)} {Ts ws ws' : List Cond} {rm : Room} (n : Nat) (ht : ∀ w ∈ Ts, w.before args s = true) (hT : GoodIn Ts (wsV own index C y ws)) (hw : ws = Cond.codeWith y bytes maxL ret hh :: ws') (hrc : rm.cells = mc) (hrs : rm.slots = ms)
    (hd : y.cls = C ∧ y.cls ≠ "java/lang/invoke/MethodHandle" ∧ y.cls ≠ "java/lang/invoke/VarHandle" ∧ (parseMethodDescriptor y.desc).map (fun d => d.parameters.length) = some n) (hR : rm.frames + 1 ≤ R.frames ∧ 8 + (maxL + 11) + rm.locals ≤ R.locals) :
    vx_CVW R s args own C index y bytes maxL ret hh ws rm mc ms n := by
  obtain ⟨hC, hd⟩ := hd
  subst hC
  have ok : ∀ w ∈ wsV own index y.cls y ws, w.before args s = true := fun w h => ht w (hT w h).1
  have hG : GoodIn Ts ws := fun w h => hT w (by unfold wsV; exact List.mem_append_right _ h)
  have hc : Cond.codeWith y bytes maxL ret hh ∈ ws := by rw [hw]; exact List.mem_cons_self
  refine ⟨⟨hrc, hrs, hR.1, hR.2, pay_in ht hG, hc⟩, ht _ (hG _ hc).1, ok _ (by simp [wsV]), ⟨hd.1, hd.2.1⟩, fun sig h => ?_, ok _ (by simp [wsV]), ok _ (by simp [wsV]), ok _ (by simp [wsV])⟩
  have h2 := hd.2.2
  rw [h] at h2
  exact (Option.some.inj h2).symm
theorem vx_runVW {y : MethodName} {bytes cc : ByteArray} {maxL nL mc ms n index : Nat} {ret : Option FieldType} {hh : List (Nat × Nat × Nat × Nat)} {ws : List Cond} {rm : Room} {Pc : Array Value → State → Prop} {Qc : Array Value → State → Outcome → State → Prop} {free : Addr → Prop} {Ts : List Cond} {own C : String} {b : Addr} {As rest : List Value} {g : JFrame}
    (S : CallFix p m c cc nL s args Ts own) (hM : Met l y ws rm Pc Qc mc ms free) (cw : vx_CVW R s args own C index y bytes maxL ret hh ws rm mc ms n) (hp : PreV s H C b Pc As)
    (hg : g.method = m) (hn : As.length = n) (hsize : g.locals.size = nL) (hstack : g.stack = As.reverse ++ .ref b :: rest) (hW : 2 * g.monitorRoom + (rest.map fun v => v.category).sum ≤ 8) (hdg : decode cc g.pc = .ok (.invokevirtual index, 3)) (hf : cells + mc ≤ R.cells ∧ slots + ms ≤ R.slots) :
    va_Run p l e R s m args below meth c H locs cells slots mc ms g rest (Qc (Value.ref b :: As).toArray) free := by
  obtain ⟨⟨hrc, hrs, hfr, hlo, hws, hcw⟩, hcode, hini, hy, hlen, hl, hin, hse⟩ := cw
  have hK : Back l R p e below s args y 3 8 (PreOf R mc ms Pc) (PostOf Qc mc ms free) := va_backW (hh := hh) (bytes := bytes) (maxL := maxL) (ret := ret) hM hp.1 hrc hrs hfr hlo hws hcw (fun a' U hW => word_at hW (Or.inl (by first | rfl | simp [Cond.onTables, Cond.keeps, Cond.steady])) hini)
  obtain ⟨hx, hb, hml, ho, -⟩ := S
  obtain ⟨-, ⟨cellB, hcB, hoB, hclB⟩, hPc⟩ := hp
  intro T hT X
  obtain ⟨v, vm₁, ⟨U', l2, c2, s2⟩, hW₁, X', ⟨g', mk, t, L, e1, e2, hq, h1, hL, h2, h3⟩, st⟩ := vx_callVW X hx (C := C) (hh := hh) (bytes := bytes) (maxL := maxL) (ret := ret) ho hl hin hse hcode hy hK (by rw [hT]; exact hcB) hoB hclB hg (hsize.trans hml.symm) (argsL := As) (rest := rest) (fun sig h => hn.trans (hlen sig h)) hstack hW (by rw [hb]; exact hdg)
    (fun vm₁ hW₁ => ⟨hf.1, hf.2, hPc (T.setVm vm₁) hT hW₁⟩)
  dsimp only [Pt.U, Pt.locs, Pt.cells, Pt.slots] at X' e1 e2 h1 h2 h3 st
  subst h1; subst h2; subst h3
  exact ⟨v, (T.setVm vm₁).calling g' mk (Value.ref b :: As).toArray, t, U', L, hT, X', hL, e1, e2, hq, st⟩
section
variable {y : MethodName} {bytes cc : ByteArray} {maxL nL mc ms n index : Nat} {ret : Option FieldType} {ws : List Cond} {rm : Room} {Pc : Array Value → State → Prop} {Qc : Array Value → State → Outcome → State → Prop} {XC : String → State → State → Prop} {free : Addr → Prop} {Ts : List Cond} {own C : String} {b : Addr} {As rest : List Value} {g : JFrame}
theorem vx_runVX {hh : List (Nat × Nat × Nat × Nat)} (S : CallFix p m c cc nL s args Ts own) (hM : vx_Met l y ws rm Pc Qc XC mc ms free) (cw : vx_CVW R s args own C index y bytes maxL ret hh ws rm mc ms n) (hp : PreV s H C b Pc As)
    (hg : g.method = m) (hn : As.length = n) (hsize : g.locals.size = nL) (hstack : g.stack = As.reverse ++ .ref b :: rest) (hW : 2 * g.monitorRoom + (rest.map fun v => v.category).sum ≤ 8) (hdg : decode cc g.pc = .ok (.invokevirtual index, 3)) (hf : cells + mc ≤ R.cells ∧ slots + ms ≤ R.slots) :
    vx_Run p l e R s m args below meth c H locs cells slots mc ms g rest (Qc (Value.ref b :: As).toArray) XC free := by
  obtain ⟨⟨hrc, hrs, hfr, hlo, hws, hcw⟩, hcode, hini, hy, hlen, hl, hin, hse⟩ := cw
  have hK : vx_Back l R p e below s args y 3 8 (PreOf R mc ms Pc) (PostOf Qc mc ms free) (vx_Post XC mc ms free) := vx_backW (hh := hh) (bytes := bytes) (maxL := maxL) (ret := ret) hM hp.1 hrc hrs hfr hlo hws hcw (fun a' U hW => word_at hW (Or.inl (by first | rfl | simp [Cond.onTables, Cond.keeps, Cond.steady])) hini)
  obtain ⟨hx, hb, hml, ho, -⟩ := S
  obtain ⟨-, ⟨cellB, hcB, hoB, hclB⟩, hPc⟩ := hp
  intro T hT X
  rcases vx_callVX X hx (C := C) (hh := hh) (bytes := bytes) (maxL := maxL) (ret := ret) ho hl hin hse hcode hy hK (by rw [hT]; exact hcB) hoB hclB hg (hsize.trans hml.symm) (argsL := As) (rest := rest) (fun sig h => hn.trans (hlen sig h)) hstack hW (by rw [hb]; exact hdg)
    (fun vm₁ hW₁ => ⟨hf.1, hf.2, hPc (T.setVm vm₁) hT hW₁⟩) with ⟨v, vm₁, ⟨U', l2, c2, s2⟩, hW₁, X', ⟨g', mk, t, L, e1, e2, hq, h1, hL, h2, h3⟩, st⟩ | ⟨q, vm₁, ⟨U', l2, c2, s2⟩, hW₁, X', ⟨g', mk, t, L, E, ce, e1, e2, hq, hce, hcv, hcl, h1, hL, h2, h3⟩, st⟩
  · dsimp only [Pt.U, Pt.locs, Pt.cells, Pt.slots] at X' e1 e2 h1 h2 h3 st
    subst h1; subst h2; subst h3
    exact Or.inl ⟨v, (T.setVm vm₁).calling g' mk (Value.ref b :: As).toArray, t, U', L, hT, X', hL, e1, e2, hq, st⟩
  · dsimp only [Pt.U, Pt.locs, Pt.cells, Pt.slots] at X' e1 e2 h1 h2 h3 st hcl
    subst h1; subst h2; subst h3
    exact Or.inr ⟨q, (T.setVm vm₁).calling g' mk (Value.ref b :: As).toArray, t, U', L, E, ce, hT, X', hL, e1, e2, hq, hce, hcv, vx_cls hW₁ hcl, st⟩
theorem vx_runSX {hh : List (Nat × Nat × Nat × Nat)} (S : CallFix p m c cc nL s args Ts own) (hM : vx_Met l y ws rm Pc Qc XC mc ms free) (cw : vx_CSW R s args own index y bytes maxL ret hh ws rm mc ms n) (hp : PreS s H Pc As)
    (hg : g.method = m) (hn : As.length = n) (hsize : g.locals.size = nL) (hstack : g.stack = As.reverse ++ rest) (hW : 2 * g.monitorRoom + (rest.map fun v => v.category).sum ≤ 8) (hdg : decode cc g.pc = .ok (.invokestatic index, 3)) (hf : cells + mc ≤ R.cells ∧ slots + ms ≤ R.slots) :
    vx_Run p l e R s m args below meth c H locs cells slots mc ms g rest (Qc As.toArray) XC free := by
  obtain ⟨⟨hrc, hrs, hfr, hlo, hws, hcw⟩, hcode, hini, hy, hlen, hl, hstt⟩ := cw
  have hK : vx_Back l R p e below s args y 3 8 (PreOf R mc ms Pc) (PostOf Qc mc ms free) (vx_Post XC mc ms free) := vx_backW (hh := hh) (bytes := bytes) (maxL := maxL) (ret := ret) hM hp.1 hrc hrs hfr hlo hws hcw (fun a' U hW => word_at hW (Or.inl (by first | rfl | simp [Cond.onTables, Cond.keeps, Cond.steady])) hini)
  obtain ⟨hx, hb, hml, ho, -⟩ := S
  intro T hT X
  rcases vx_callSX X hx (hh := hh) (bytes := bytes) (maxL := maxL) (ret := ret) ho hl hstt hini hcode hy hK hg (hsize.trans hml.symm) (argsL := As) (rest := rest) (fun sig h => hn.trans (hlen sig h)) hstack hW (by rw [hb]; exact hdg)
    (fun vm₁ hW₁ => ⟨hf.1, hf.2, hp.2 (T.setVm vm₁) hT hW₁⟩) with ⟨v, vm₁, ⟨U', l2, c2, s2⟩, hW₁, X', ⟨g', mk, t, L, e1, e2, hq, h1, hL, h2, h3⟩, st⟩ | ⟨q, vm₁, ⟨U', l2, c2, s2⟩, hW₁, X', ⟨g', mk, t, L, E, ce, e1, e2, hq, hce, hcv, hcl, h1, hL, h2, h3⟩, st⟩
  · dsimp only [Pt.U, Pt.locs, Pt.cells, Pt.slots] at X' e1 e2 h1 h2 h3 st
    subst h1; subst h2; subst h3
    exact Or.inl ⟨v, (T.setVm vm₁).calling g' mk As.toArray, t, U', L, hT, X', hL, e1, e2, hq, st⟩
  · dsimp only [Pt.U, Pt.locs, Pt.cells, Pt.slots] at X' e1 e2 h1 h2 h3 st hcl
    subst h1; subst h2; subst h3
    exact Or.inr ⟨q, (T.setVm vm₁).calling g' mk As.toArray, t, U', L, E, ce, hT, X', hL, e1, e2, hq, hce, hcv, vx_cls hW₁ hcl, st⟩
end
end VXH
theorem vx_ofWH {l : Launch} {y : MethodName} {ws ws' : List Cond} {rm : Room} {Pc : Array Value → State → Prop} {Qc : Array Value → State → Outcome → State → Prop} {XC : String → State → State → Prop} {mc ms : Nat} {free : Addr → Prop} {cc : ByteArray} {maxL : Nat} {ret : Option FieldType} {hh : List (Nat × Nat × Nat × Nat)}
    (hy : plainName y.cls = true) (hw : ws = Cond.codeWith y cc maxL ret hh :: ws')
    (body : ∀ p e s m args below meth c s₁, BodyLoose p l y (headSpec ws rm) cc maxL ret e s m args below meth c s₁ → c.maxLocals = maxL → Pc args s →
      W p l e (headSpec ws rm).room s m args below meth c s.heap [] 0 0 (vx_MQ below Qc XC args s mc ms free) (entryFrame m args maxL)) : vx_Met l y ws rm Pc Qc XC mc ms free := by
  refine MetFree.of_bodyS (code := cc) (maxLocals := maxL) (ret := ret) hy ?_ ?_
  · intro args s m h hn
    obtain ⟨m9, meth, c, hn9, h1, h2, h3, h4, -, h5, h6, -⟩ := Cond.codeWith_spec (atoms_spec (ws := ws) h _ (by rw [hw]; exact List.mem_cons_self))
    cases hn.symm.trans hn9
    exact ⟨meth, c, h1, h2, h3, h4, h5, h6⟩
  · intro p e s m args below meth c s₁ B hml hP _
    have hh0 : s₁.heap = s.heap := by rw [B.state]; rfl
    obtain ⟨t, a1, o, b1, b2, b3⟩ := body p e s m args below meth c s₁ B hml hP s₁ hh0 (Stand.of_body B)
    exact ⟨t, o, a1, b1, b2, b3⟩
/-! ===== END ===== -/
/-! ===== BEGIN what the machine throws by itself, no traces kept ===== -/
section VXM
set_option maxHeartbeats 1000000 in
/-- the machine throws cls with the message text, no traces kept: from its note over the frame g to 'throwing' over the same frame (follows the proofs of Stand.vmThrowsMessage, Shelf/KitTracedVmS.lean, and Stand.throwsMessageColdBareV, StandMessageColdV.lean, without the step out of the frame) -/
theorem vx_vmAt {p : Program} {l : Launch} {e : Env} {R : Room} {s : State} {m₀ : MethodId} {args : Array Value} {below : List Frame} {meth : Method} {c : Code} {W : State} {locs : List Loc} {cells slots : Nat}
    (X : Stand p l e R s m₀ args below meth c W locs cells slots) (hexec : p.tables.exec = Jvm.exec) (htr : e.platform.stackTraces = false) {cls : String} {names : List String} {text : String}
    (hcls : Bundle.fit cls = true) (hnames : ∀ n ∈ names, Bundle.fit n = true) (hsoe : (cls == "java/lang/StackOverflowError") = false) (hoom : (cls == "java/lang/OutOfMemoryError") = false)
    (h : ∀ a ∈ Bundle.messageArmAtoms cls names, a.before args s = true)
    (hlocs : ∀ x ∈ locs, ∀ cell, s.heap[x.base]? = some cell → cell.vm.isStatics = false)
    (htext : (text == notModelled) = false) (hlimit : ¬ (stringBytes (stringToUtf16 text)).size > e.platform.arrayLengthLimit) (hheap : ¬ (stringBytes (stringToUtf16 text)).size * componentBytes .byte > e.platform.maxHeapBytes)
    {g : JFrame} (hg : g.method = m₀) (hsize : g.locals.size = c.maxLocals)
    (hRframes : names.length + 4 < R.frames) (hRlocals : 2 * g.monitorRoom + (g.stack.map fun v => v.category).sum + 10240 ≤ R.locals) (hshort : 13 * names.length + 55 ≤ 10240)
    (hRcells : cells + 3 ≤ R.cells) (hRslots : slots + ((stringBytes (stringToUtf16 text)).size + 4 + 6) ≤ R.slots) (hlocks : meth.locks = false) :
    ∃ (S : State) (q : Addr) (ce : Cell), (∀ target, Steps p.tables e below ((S.setTop g).pushFrame (.throwing q)) target → Steps p.tables e below ((W.setTop g).pushFrame (.throwNew cls (some text) none)) target) ∧
      Stand p l e R s m₀ args below meth c S locs (cells + 3) (slots + ((stringBytes (stringToUtf16 text)).size + 4 + 6)) ∧ S.heap[q]? = some ce ∧ s.vm.findClass cls = some ce.cls ∧ ce.vm = .none := by
  have howns : e.platform.frameOwnsMonitors = true := by rw [X.admits.platform]
  have hfin : e.platform.finalization = false := by rw [X.admits.platform]
  have hpl : e.platform.magicAccessors = ({} : Platform).magicAccessors := by rw [X.admits.platform]
  have a : ∀ x, x ∈ Bundle.messageArmAtoms cls names → x.holds args s none s [] = true := fun x hx => h x hx
  obtain ⟨T, Z0, L, -, Y⟩ := ThrowableC.of_atoms (args := args) howns hfin hpl (fun x hx => h x (by simp [Bundle.messageArmAtoms, hx]))
  obtain ⟨Z, M, LZ, LM, hnZ⟩ := Init0T.ofS_atoms (args := args) hpl L Y (fun x hx => h x (by simp [Bundle.messageArmAtoms, hx]))
  obtain ⟨P1, Ps, hlen, L1, hL, hP1m, hlink1, hlink⟩ := Bundle.chainS (args := args) hpl hnZ names cls hcls hnames (fun x hx => h x (by simp [Bundle.messageArmAtoms, hx]))
  obtain ⟨Zs, LZs, hn4, hfitv, hfitc⟩ := StringT.of_atoms (args := args) (fun x hx => h x (by simp [Bundle.messageArmAtoms, hx]))
  have hfound : s.vm.findClass cls = some P1.m.cls := findClass_of_methodNamed hP1m
  obtain ⟨c1, kX, hc1, hk, hord, -, -, hn6⟩ := Cond.instantiable_spec (a (.instantiable cls 6) (by simp [Bundle.messageArmAtoms]))
  cases Option.some.inj (hc1.symm.trans hfound)
  have hinit := Cond.initialized_spec hfound hk (a (.initialized cls) (by simp [Bundle.messageArmAtoms]))
  have hctor : kX.findMethod "<init>" "(Ljava/lang/String;)V" = some P1.m.idx := findMethod_of_methodNamed hP1m hk
  have hsel0 : selectMethod e.platform s.vm P1.m.cls T.fill0 = .method T.fill0 := by
    obtain ⟨c2, r2, m2, q1, q2, q3, q4, -⟩ := Cond.selects_spec (a (.selects cls Bundle.tFill0 Bundle.tFill0) (by simp [Bundle.messageArmAtoms]))
    cases Option.some.inj (q1.symm.trans hfound)
    cases Option.some.inj (q2.symm.trans (State.methodFound?_of_named Y.fill0 (by decide)))
    cases Option.some.inj (q3.symm.trans Y.fill0)
    rw [Launch.admits_selectMethod X.admits]; exact q4
  have hselF : selectMethod e.platform s.vm P1.m.cls T.fill = .method T.fill := by
    obtain ⟨c2, r2, m2, q1, q2, q3, q4, -⟩ := Cond.selects_spec (a (.selects cls Bundle.tFill Bundle.tFill) (by simp [Bundle.messageArmAtoms]))
    cases Option.some.inj (q1.symm.trans hfound)
    cases Option.some.inj (q2.symm.trans (State.methodFound?_of_named Y.fill (by decide)))
    cases Option.some.inj (q3.symm.trans Y.fill)
    rw [Launch.admits_selectMethod X.admits]; exact q4
  obtain ⟨cellS0, hcS0, hiss⟩ := Y.statics
  obtain ⟨u0, hu0⟩ := Cond.staticRefV Y.unassigned L.unassignedStatic L.statics hcS0 hiss (a (.isRef (.static Bundle.tN "UNASSIGNED_STACK" Bundle.steD)) (by simp [Bundle.messageArmAtoms]))
  obtain ⟨sen, hsen⟩ := Cond.staticRefV Y.sentinel L.sentinelStatic L.statics hcS0 hiss (a (.isRef (.static Bundle.tN "SUPPRESSED_SENTINEL" Bundle.listD)) (by simp [Bundle.messageArmAtoms]))
  obtain ⟨ci198, i198, fB, hk198, hg198, ha198, hsB, -, hnB, htB, hffB⟩ := Cond.ownField (t := .object "java/lang/Object") Y.found L.cls (by decide +kernel) (a (.fieldLink Bundle.tN 198 Bundle.tN "backtrace" "Ljava/lang/Object;") (by simp [Bundle.messageArmAtoms])) (a (.lays Bundle.tN Bundle.tN "backtrace" "Ljava/lang/Object;") (by simp [Bundle.messageArmAtoms])) e.platform hpl
  obtain ⟨cellS, hcS', heS, -, hkeep⟩ := X.same.2.2.2.2.2 T.aS cellS0 hcS0
  have hcellS : W.heap[T.aS]? = some cellS := hcS'
  have hout' : ∀ i, (⟨T.aS, i⟩ : Loc) ∉ locs := fun i hmem => by
    have := hlocs _ hmem cellS0 hcS0
    rw [hiss] at this; cases this
  have hknownS : cellS.vm ≠ .unknown := by
    rw [heS]; intro hu
    rw [show cellS0.vm = .unknown from hu] at hiss
    cases hiss
  have hvU : cellS.slots[T.fUnassigned.slot]? = some u0.v := by rw [hkeep _ (hout' _)]; exact hu0
  have hvSen : cellS.slots[T.fSentinel.slot]? = some sen.v := by rw [hkeep _ (hout' _)]; exact hsen
  obtain ⟨iM, hffM⟩ := Y.msg
  obtain ⟨tyC, dC, hdC, hdnC⟩ := Cond.laysAt hfound hk Y.cause (a (.lays cls Bundle.tN "cause" "Ljava/lang/Throwable;") (by simp [Bundle.messageArmAtoms]))
  obtain ⟨tyS, dS, hdS, hdnS⟩ := Cond.laysAt hfound hk Y.stack (a (.lays cls Bundle.tN "stackTrace" Bundle.steD) (by simp [Bundle.messageArmAtoms]))
  obtain ⟨tyP, dP, hdP, hdnP⟩ := Cond.laysAt hfound hk Y.supp (a (.lays cls Bundle.tN "suppressedExceptions" Bundle.listD) (by simp [Bundle.messageArmAtoms]))
  obtain ⟨tyM, dM, hdM, hdnM⟩ := Cond.laysAt hfound hk hffM (a (.lays cls Bundle.tN "detailMessage" "Ljava/lang/String;") (by simp [Bundle.messageArmAtoms]))
  obtain ⟨tyB, dB, hdB, hdnB⟩ := Cond.laysAt hfound hk hffB (a (.lays cls Bundle.tN "backtrace" "Ljava/lang/Object;") (by simp [Bundle.messageArmAtoms]))
  have bC := Cond.laysApart hdB hdC hdnB hdnC (by rw [hnB, Y.causeName]; decide)
  have bS := Cond.laysApart hdB hdS hdnB hdnS (by rw [hnB, Y.stackName]; decide)
  have bP := Cond.laysApart hdB hdP hdnB hdnP (by rw [hnB, Y.suppName]; decide)
  have hbk : ((preparedCellV T.toThrowableT (freshCell P1.m.cls kX) (W.heap.size + 2) u0 sen).withEntry W.cur).slots[fB.slot]? = some .null := by
    have := fresh_default (c := P1.m.cls) tyB
    rw [htB] at this
    simpa [preparedCellV, Cell.setSlot, Cell.withEntry, Array.getElem?_setIfInBounds, bC, bS, bP, bC.symm, bS.symm, bP.symm, defaultValue] using this
  have tkC := Takes.of_laid (v := .ref (W.heap.size + 2)) hk hord tyC (by rw [Y.causeType]; rfl)
  have tkS := Takes.of_laid (v := u0.v) hk hord tyS (by rw [Y.stackType]; exact fits_refV_array _ u0)
  have tkP := Takes.of_laid (v := sen.v) hk hord tyP (by rw [Y.suppType]; exact fits_refV_object _ sen)
  have tkM := Takes.of_laid (v := .ref (W.heap.size + 1)) hk hord tyM (by rw [Y.msgType]; rfl)
  have hskip : SkipFacts T e.platform s (fun u => u) u0 ((preparedCellV T.toThrowableT (freshCell P1.m.cls kX) (W.heap.size + 2) u0 sen).withEntry W.cur) := ⟨{ ci198 := ci198, i198 := i198, fBack := fB }, ⟨hk198, hg198, ha198, hsB⟩, hbk, fun _ _ => rfl⟩
  have h0 : At W g.method c below := by rw [hg]; exact X.here
  obtain ⟨hbeyond, hfreeW⟩ := X.vmMayThrow hsize (.throwNew cls (some text) none) (fun f hf => by cases hf) rfl hRlocals
  have hfr' : W.frames.length + Ps.length + 4 < (e.platform.stackLimits W.me).1 := by have := X.framesAbove hRframes; omega
  have hwd' : (stackUse (.java g :: W.frames.tail)).2 + 13 * Ps.length + 55 ≤ (e.platform.stackLimits W.me).2 := by have := X.stackAbove hsize (K := 13 * Ps.length + 55) (by omega); omega
  have hslots : W.slotsUsed + (stringBytes (stringToUtf16 text)).size + Zs.kS.instanceTypes.size + kX.instanceTypes.size ≤ e.platform.maxSlots := by
    have := X.slotsAbove hRslots
    rw [hn4, hn6]
    omega
  obtain ⟨vm', hW', st⟩ := Steps.vmThrowsMessageColdByV p (s₀ := s) (S := W) (g := g) h0 hexec T L Z LZ M LM X.warmed (t := W.cur) rfl Zs LZs P1 L1 Ps hL hlink1 hlink hsoe hoom hfound hk hinit hord hctor
    (Launch.admits_hotImplicitExceptions X.admits) hbeyond hfreeW htext hlimit hheap (X.cellsAbove hRcells) hslots (hfitv _) (hfitc _)
    (Nn := fun u => u) heapOnly_id (fun _ _ => rfl) (fun _ => rfl) (fun u x y => setCell_twice _ _ _ _) (fun _ => Nat.le_refl _) (cN := ((preparedCellV T.toThrowableT (freshCell P1.m.cls kX) (W.heap.size + 2) u0 sen).withEntry W.cur))
    hsel0 hcellS hknownS hvU tkS (fun _ hu => hu) (fun _ hu => hu) rfl rfl rfl (by simp [preparedCellV, Cell.setSlot, Cell.withEntry]) hskip (fun _ _ hA hW _ hroom _ hrest => L.nativeOff p htr hA hW hroom hrest) hselF hvSen tkC tkP tkM Y.objLocals rfl hfr' hwd'
  rw [plainBareV_eq T.toThrowableT (W.heap.size + 2) u0 sen (.ref (W.heap.size + 1)) W.cur rfl rfl] at st
  obtain ⟨-, -, w3, w4, -, -, -⟩ := withThrown_facts e.platform W Zs text P1.m.cls kX
  have X3 := ((X.pushed (bytesOf Zs.cB (stringToUtf16 text))).pushed (stringAt Zs.cS Zs.kS Zs.fv Zs.fc (stringToUtf16 text) W.heap.size)).pushed (freshCell P1.m.cls kX)
  rw [← withString_eq] at X3
  have X4 := X3.noted hW'
  have ha : (W.heap.size + 2) < ((withThrown W Zs text P1.m.cls kX).setVm vm').heap.size := by show _ < (withThrown W Zs text P1.m.cls kX).heap.size; rw [w3]; omega
  have hcell : ((withThrown W Zs text P1.m.cls kX).setVm vm').heap[(W.heap.size + 2)]? = some (freshCell P1.m.cls kX) := w4
  have X5 := ((((X4.stored hcell T.fCause.slot (.ref (W.heap.size + 2))).storedAgain ha T.fStack.slot u0.v).storedAgain ha T.fSupp.slot sen.v).storedAgain ha T.fStack.slot u0.v).storedAgain ha T.fMsg.slot (.ref (W.heap.size + 1))
  obtain ⟨g₁, hfrM⟩ := X5.frames_eq
  have hU : ((((withThrown W Zs text P1.m.cls kX).setVm vm').setCell (W.heap.size + 2) (plainBareV T.toThrowableT (freshCell P1.m.cls kX) (W.heap.size + 2) u0 sen (.ref (W.heap.size + 1)))).setTop g).pushFrame (.throwing (W.heap.size + 2)) = (((withThrown W Zs text P1.m.cls kX).setVm vm').setCell (W.heap.size + 2) (plainBareV T.toThrowableT (freshCell P1.m.cls kX) (W.heap.size + 2) u0 sen (.ref (W.heap.size + 1)))).setFrames (.throwing (W.heap.size + 2) :: .java g :: below) := by
    rw [State.pushFrame, State.frames_setTop _ hfrM, State.setTop_of_frames _ hfrM, State.setFrames_setFrames]
  have b1 : (bytesOf Zs.cB (stringToUtf16 text)).slots.size = (stringBytes (stringToUtf16 text)).size := by
    rw [(Cell.writeAll_facts _ _).2.2]; simp [bytes0]
  have b2 : (stringAt Zs.cS Zs.kS Zs.fv Zs.fc (stringToUtf16 text) W.heap.size).slots.size = 4 := by simp [string0, Cell.setSlot, hn4]
  have b3 : (freshCell P1.m.cls kX).slots.size = 6 := by simp [hn6]
  rw [b1, b2, b3] at X5
  have e9 : slots + (stringBytes (stringToUtf16 text)).size + 4 + 6 = slots + ((stringBytes (stringToUtf16 text)).size + 4 + 6) := by omega
  rw [e9] at X5
  simp only [List.append_assoc, List.cons_append, List.nil_append] at X5
  refine ⟨((withThrown W Zs text P1.m.cls kX).setVm vm').setCell (W.heap.size + 2) (plainBareV T.toThrowableT (freshCell P1.m.cls kX) (W.heap.size + 2) u0 sen (.ref (W.heap.size + 1))), W.heap.size + 2, _, fun target ht => st _ (by rw [X.tail, ← hU]; exact ht),
    X5.forget (fun y hy => ?_), heapAt_setCell_self _ ha, hfound, rfl⟩
  simp only [List.mem_cons, List.not_mem_nil, or_false] at hy
  have hge : s.heap.size ≤ W.heap.size := X.same.2.1
  rcases hy with rfl | rfl | rfl | rfl | rfl <;> exact Nat.le_trans hge (Nat.le_add_right _ 2)
set_option maxHeartbeats 1000000 in
/-- the machine throws NullPointerException, no traces kept: from its note over the frame g to 'throwing' over the same frame (follows the proof of Stand.vmThrowsNpe, Shelf42/KT2.lean; throwsNpeColdBareVAt, Shelf42/NT91.lean, called) -/
theorem vx_npeAt {p : Program} {l : Launch} {e : Env} {R : Room} {s : State} {m₀ : MethodId} {args : Array Value} {below : List Frame} {meth : Method} {c : Code} {W : State} {locs : List Loc} {cells slots : Nat}
    (X : Stand p l e R s m₀ args below meth c W locs cells slots) (hexec : p.tables.exec = Jvm.exec) (htr : e.platform.stackTraces = false) {n : Nat}
    (h : ∀ a ∈ Bundle.npeArmAtoms n, a.before args s = true)
    (hlocs : ∀ x ∈ locs, ∀ cell, s.heap[x.base]? = some cell → cell.vm.isStatics = false)
    {g : JFrame} (hg : g.method = m₀) (hsize : g.locals.size = c.maxLocals)
    (hRframes : 7 < R.frames) (hRlocals : 2 * g.monitorRoom + (g.stack.map fun v => v.category).sum + 10240 ≤ R.locals)
    (hRcells : cells + 1 ≤ R.cells) (hRslots : slots + n ≤ R.slots) (hlocks : meth.locks = false) :
    ∃ (S : State) (q : Addr) (ce : Cell), (∀ target, Steps p.tables e below ((S.setTop g).pushFrame (.throwing q)) target → Steps p.tables e below ((W.setTop g).pushFrame (.throwNew "java/lang/NullPointerException" none none)) target) ∧
      Stand p l e R s m₀ args below meth c S locs (cells + 1) (slots + n) ∧ S.heap[q]? = some ce ∧ s.vm.findClass "java/lang/NullPointerException" = some ce.cls ∧ ce.vm = .none := by
  have howns : e.platform.frameOwnsMonitors = true := by rw [X.admits.platform]
  have hfin : e.platform.finalization = false := by rw [X.admits.platform]
  have hpl : e.platform.magicAccessors = ({} : Platform).magicAccessors := by rw [X.admits.platform]
  have hpl2 : e.platform.arrayCloneIsPublic = true := by rw [X.admits.platform]
  have a' : ∀ x, x ∈ Bundle.npeArmAtoms n → x.holds args s none s [] = true := fun x hx => h x hx
  obtain ⟨T, Z, L, LZ, Y⟩ := ThrowableC.of_atoms (args := args) howns hfin hpl (fun x hx => h x (by simp [Bundle.npeArmAtoms, hx]))
  obtain ⟨N, LN, hcN, hnNF, hordN, hffS⟩ := NpeC.of_atoms (args := args) hpl hpl2 L Y (fun x hx => h x (by simp [Bundle.npeArmAtoms, hx]))
  obtain ⟨P1, L1, hP1m, hP1s⟩ := PassC.of_atoms (args := args) (s := s) hpl (X := Bundle.nN) (Y := Bundle.rN) (by decide) (by decide) LibCode.NullPointerException.Init0.at_0 LibCode.NullPointerException.Init0.at_1 LibCode.NullPointerException.Init0.at_4 (fun x hx => h x (by simp [Bundle.npeArmAtoms, hx]))
  obtain ⟨PR, LR, hPRm, hPRs⟩ := PassC.of_atoms (args := args) (s := s) hpl (X := Bundle.rN) (Y := Bundle.eN) (by decide) (by decide) LibCode.RuntimeException.Init0.at_0 LibCode.RuntimeException.Init0.at_1 LibCode.RuntimeException.Init0.at_4 (fun x hx => h x (by simp [Bundle.npeArmAtoms, hx]))
  obtain ⟨PE, LEx, hPEm, hPEs⟩ := PassC.of_atoms (args := args) (s := s) hpl (X := Bundle.eN) (Y := Bundle.tN) (by decide) (by decide) LibCode.Exception.Init0.at_0 LibCode.Exception.Init0.at_1 LibCode.Exception.Init0.at_4 (fun x hx => h x (by simp [Bundle.npeArmAtoms, hx]))
  have hfound : s.vm.findClass Bundle.nN = some P1.m.cls := findClass_of_methodNamed hP1m
  have ecls : N.cN = P1.m.cls := Option.some.inj (hcN.symm.trans hfound)
  have hk : s.vm.classes[P1.m.cls]? = some N.kN := by rw [← ecls]; exact LN.cls
  have hinit := Cond.initialized_spec hfound hk (a' (.initialized Bundle.nN) (by simp [Bundle.npeArmAtoms]))
  have hctor : N.kN.findMethod "<init>" "()V" = some P1.m.idx := findMethod_of_methodNamed hP1m hk
  obtain ⟨c1, k1, hc1, hk1, -, -, -, hn⟩ := Cond.instantiable_spec (a' (.instantiable Bundle.nN n) (by simp [Bundle.npeArmAtoms]))
  cases Option.some.inj (hc1.symm.trans hfound)
  cases Option.some.inj (hk1.symm.trans hk)
  have hfsz : (freshCell P1.m.cls N.kN).slots.size = n := by simp [hn]
  have hlink1 : P1.sup = PR.m := Option.some.inj (hP1s.symm.trans hPRm)
  have hlinkR : PR.sup = PE.m := Option.some.inj (hPRs.symm.trans hPEm)
  have hlinkE : PE.sup = Z.m T.toThrowableT := Option.some.inj (hPEs.symm.trans Y.init0)
  have hLs : ∀ P, P ∈ [PR, PE] → P.Links0 e.platform s := fun P hP => by
    simp only [List.mem_cons, List.not_mem_nil, or_false] at hP
    rcases hP with rfl | rfl
    · exact LR
    · exact LEx
  have hsel0 : selectMethod e.platform s.vm P1.m.cls T.fill0 = .method T.fill0 := by
    obtain ⟨c2, r2, m2, q1, q2, q3, q4, -⟩ := Cond.selects_spec (a' (.selects Bundle.nN Bundle.tFill0 Bundle.tFill0) (by simp [Bundle.npeArmAtoms]))
    cases Option.some.inj (q1.symm.trans hfound)
    cases Option.some.inj (q2.symm.trans (State.methodFound?_of_named Y.fill0 (by decide)))
    cases Option.some.inj (q3.symm.trans Y.fill0)
    rw [Launch.admits_selectMethod X.admits]; exact q4
  have hselF : selectMethod e.platform s.vm P1.m.cls T.fill = .method N.fill := by
    obtain ⟨c2, r2, m2, q1, q2, q3, q4, -⟩ := Cond.selects_spec (a' (.selects Bundle.nN Bundle.tFill Bundle.nFill) (by simp [Bundle.npeArmAtoms]))
    cases Option.some.inj (q1.symm.trans hfound)
    cases Option.some.inj (q2.symm.trans (State.methodFound?_of_named Y.fill (by decide)))
    cases Option.some.inj (q3.symm.trans hnNF)
    rw [Launch.admits_selectMethod X.admits]; exact q4
  obtain ⟨cellS0, hcS0, hiss⟩ := Y.statics
  obtain ⟨u0, hu0⟩ := Cond.staticRefV Y.unassigned L.unassignedStatic L.statics hcS0 hiss (a' (.isRef (.static Bundle.tN "UNASSIGNED_STACK" Bundle.steD)) (by simp [Bundle.npeArmAtoms]))
  obtain ⟨sen, hsen⟩ := Cond.staticRefV Y.sentinel L.sentinelStatic L.statics hcS0 hiss (a' (.isRef (.static Bundle.tN "SUPPRESSED_SENTINEL" Bundle.listD)) (by simp [Bundle.npeArmAtoms]))
  obtain ⟨ci198, i198, fB, hk198, hg198, ha198, hsB, -, hnB, htB, hffB⟩ := Cond.ownField (t := .object "java/lang/Object") Y.found L.cls (by decide +kernel) (a' (.fieldLink Bundle.tN 198 Bundle.tN "backtrace" Bundle.objD) (by simp [Bundle.npeArmAtoms])) (a' (.lays Bundle.tN Bundle.tN "backtrace" Bundle.objD) (by simp [Bundle.npeArmAtoms])) e.platform hpl
  obtain ⟨cellS, hcS', heS, -, hkeep⟩ := X.same.2.2.2.2.2 T.aS cellS0 hcS0
  have hcellS : W.heap[T.aS]? = some cellS := hcS'
  have hout' : ∀ i, (⟨T.aS, i⟩ : Loc) ∉ locs := fun i hmem => by
    have := hlocs _ hmem cellS0 hcS0
    rw [hiss] at this; cases this
  have hknownS : cellS.vm ≠ .unknown := by
    rw [heS]; intro hu
    rw [show cellS0.vm = .unknown from hu] at hiss
    cases hiss
  have hvU : cellS.slots[T.fUnassigned.slot]? = some u0.v := by rw [hkeep _ (hout' _)]; exact hu0
  have hvSen : cellS.slots[T.fSentinel.slot]? = some sen.v := by rw [hkeep _ (hout' _)]; exact hsen
  obtain ⟨tyC, dC, hdC, hdnC⟩ := Cond.laysAt hfound hk Y.cause (a' (.lays Bundle.nN Bundle.tN "cause" "Ljava/lang/Throwable;") (by simp [Bundle.npeArmAtoms]))
  obtain ⟨tyS, dS, hdS, hdnS⟩ := Cond.laysAt hfound hk Y.stack (a' (.lays Bundle.nN Bundle.tN "stackTrace" Bundle.steD) (by simp [Bundle.npeArmAtoms]))
  obtain ⟨tyP, dP, hdP, hdnP⟩ := Cond.laysAt hfound hk Y.supp (a' (.lays Bundle.nN Bundle.tN "suppressedExceptions" Bundle.listD) (by simp [Bundle.npeArmAtoms]))
  obtain ⟨tyX, dX, hdX, hdnX⟩ := Cond.laysAt hfound hk hffS (a' (.lays Bundle.nN Bundle.nN "extendedMessageState" "I") (by simp [Bundle.npeArmAtoms, Bundle.npeAtoms]))
  obtain ⟨hnX, htX⟩ := State.fieldFound?_type hffS (t := .int) (by decide +kernel)
  have xC := Cond.laysApart hdC hdX hdnC hdnX (by rw [hnX, Y.causeName]; decide)
  have xS := Cond.laysApart hdS hdX hdnS hdnX (by rw [hnX, Y.stackName]; decide)
  have xP := Cond.laysApart hdP hdX hdnP hdnX (by rw [hnX, Y.suppName]; decide)
  have hv0 : (freshCell P1.m.cls N.kN).slots[N.fState.slot]? = some (.int 0) := by
    have := fresh_default (c := P1.m.cls) tyX
    rw [htX] at this; exact this
  obtain ⟨tyB, dB, hdB, hdnB⟩ := Cond.laysAt hfound hk hffB (a' (.lays Bundle.nN Bundle.tN "backtrace" Bundle.objD) (by simp [Bundle.npeArmAtoms]))
  have bC := Cond.laysApart hdB hdC hdnB hdnC (by rw [hnB, Y.causeName]; decide)
  have bS := Cond.laysApart hdB hdS hdnB hdnS (by rw [hnB, Y.stackName]; decide)
  have bP := Cond.laysApart hdB hdP hdnB hdnP (by rw [hnB, Y.suppName]; decide)
  have bX := Cond.laysApart hdB hdX hdnB hdnX (by rw [hnB, hnX]; decide)
  have hbk : ((npeCell N.toNpeT (preparedCellV T.toThrowableT (freshCell P1.m.cls N.kN) W.heap.size u0 sen) W.cur).withEntry W.cur).slots[fB.slot]? = some .null := by
    have := fresh_default (c := P1.m.cls) tyB
    rw [htB] at this
    simpa [npeCell, preparedCellV, Cell.setSlot, Cell.withEntry, Array.getElem?_setIfInBounds, bC, bS, bP, bX, bC.symm, bS.symm, bP.symm, bX.symm, defaultValue] using this
  have tkC := Takes.of_laid (v := .ref W.heap.size) hk hordN tyC (by rw [Y.causeType]; rfl)
  have tkS := Takes.of_laid (v := u0.v) hk hordN tyS (by rw [Y.stackType]; exact fits_refV_array _ u0)
  have tkP := Takes.of_laid (v := sen.v) hk hordN tyP (by rw [Y.suppType]; exact fits_refV_object _ sen)
  have tkX := Takes.of_laid (v := .int 1) hk hordN tyX (by rw [htX]; rfl)
  have hskip : SkipFacts T e.platform s (fun u => u) u0 ((npeCell N.toNpeT (preparedCellV T.toThrowableT (freshCell P1.m.cls N.kN) W.heap.size u0 sen) W.cur).withEntry W.cur) := ⟨{ ci198 := ci198, i198 := i198, fBack := fB }, ⟨hk198, hg198, ha198, hsB⟩, hbk, fun _ _ => rfl⟩
  obtain ⟨vm', X3, st, -⟩ := X.throwsNpeColdBareVAt hexec hg hsize T L Z LZ N LN P1 L1 [PR, PE] hLs hlink1 ⟨hlinkR, hlinkE, trivial⟩ hfound hk hinit hordN hctor hsel0 hselF hcellS hknownS hvU hvSen
    hv0 xC xS xP tkC tkS tkP tkX Y.objLocals hskip (fun _ _ hA hW _ hroom _ hrest => L.nativeOff p htr hA hW hroom hrest) (by simpa using hRframes) hRlocals (by simp) hRcells (by rw [hn]; exact hRslots)
  have hlt : W.heap.size < ((W.pushCell (freshCell P1.m.cls N.kN)).setVm vm').heap.size := by
    show W.heap.size < (W.pushCell (freshCell P1.m.cls N.kN)).heap.size
    rw [State.heap_size_pushCell]; omega
  rw [hfsz] at X3
  obtain ⟨g₁, hfrM⟩ := X3.frames_eq
  have hU : ((((W.pushCell (freshCell P1.m.cls N.kN)).setVm vm').setCell W.heap.size (npeBareV T.toThrowableT N.toNpeT (freshCell P1.m.cls N.kN) W.heap.size u0 sen)).setTop g).pushFrame (.throwing W.heap.size) = (((W.pushCell (freshCell P1.m.cls N.kN)).setVm vm').setCell W.heap.size (npeBareV T.toThrowableT N.toNpeT (freshCell P1.m.cls N.kN) W.heap.size u0 sen)).setFrames (.throwing W.heap.size :: .java g :: below) := by
    rw [State.pushFrame, State.frames_setTop _ hfrM, State.setTop_of_frames _ hfrM, State.setFrames_setFrames]
  refine ⟨_, W.heap.size, _, fun target ht => st.trans (by rw [← hU]; exact ht), X3.forget (fun y hy => ?_), heapAt_setCell_self _ hlt, hfound, rfl⟩
  simp only [List.mem_cons, List.not_mem_nil, or_false] at hy
  have hge : s.heap.size ≤ W.heap.size := X.same.2.1
  rcases hy with rfl | rfl | rfl | rfl | rfl <;> exact hge
/-- the words of a machine's NullPointerException, but the four that speak of the heap -/
def vx_atN (n : Nat) : List Cond := (Bundle.npeArmAtoms n).filter vx_no
/-- the words of a machine's throw with a message, but the four that speak of the heap -/
def vx_atM (X : String) (names : List String) : List Cond := (Bundle.messageArmAtoms X names).filter vx_no
section
variable {p : Program} {l : Launch} {e : Env} {R : Room} {s : State} {m : MethodId} {args : Array Value} {below : List Frame} {meth : Method} {c : Code} {H : Heap} {locs : List Loc} {cells slots : Nat}
/-- a frame seen from a rebased start, seen from the first start again -/
theorem vx_back9 {T S : State} {R' : Room} {k n : Nat} (X : Stand p l e R s m args below meth c T locs cells slots) (Y : Stand p l e R' ((T.setVm s.vm).setFrames (.invoking m args :: below)) m args below meth c T [] 0 0) (Z : Stand p l e R' ((T.setVm s.vm).setFrames (.invoking m args :: below)) m args below meth c S [] k n) :
    Stand p l e R s m args below meth c S locs (cells + k) (slots + n) := by
  have hW0 : s.WarmedH ((T.setVm s.vm).setFrames (.invoking m args :: below)).vm := State.WarmedH.refl s
  refine { admits := X.admits, cas := X.cas, clock := X.clock, frames := X.frames, room := X.room, hears := X.hears, method := X.method, code := X.code, here := Z.here, tail := Z.tail, warmed := State.WarmedH.trans hW0 Z.warmed, limits := Z.limits.trans (Y.limits.symm.trans X.limits), bytes := Z.bytes.trans (Y.bytes.symm.trans X.bytes), same := ?_ }
  obtain ⟨e1, e2⟩ := Z.same
  rw [State.setFrames_setFrames] at e1
  have h2 : (T.setVm s.vm).sameButNew (S.setVm s.vm) [] k n := ⟨e1, e2⟩
  have h3 := X.same.trans h2
  rw [List.append_nil] at h3
  exact h3
/-- from the machine's note that E is thrown here with this text -/
def vx_Note (p : Program) (l : Launch) (e : Env) (R : Room) (s : State) (m : MethodId) (args : Array Value) (below : List Frame) (meth : Method) (c : Code) (H : Heap) (locs : List Loc) (cells slots : Nat) (Q : State → Prop) (g : JFrame) (E text : String) : Prop :=
  ∀ T : State, T.heap = H → Stand p l e R s m args below meth c T locs cells slots → ∃ t, Steps p.tables e below ((T.setTop g).pushFrame (.throwNew E (some text) none)) t ∧ Q t
theorem vx_vm {pc : Nat} {ls : Array Slot} {rest : List Value} {Q : State → Prop} (hexec : p.tables.exec = Jvm.exec) (hl : l.stackTraces = false) {cls text : String} {names : List String} {nb : Nat} {A : Nat → Prop}
    (hcls : Bundle.fit cls = true) (hnames : ∀ n ∈ names, Bundle.fit n = true) (hsoe : (cls == "java/lang/StackOverflowError") = false) (hoom : (cls == "java/lang/OutOfMemoryError") = false)
    (hat : ∀ w ∈ vx_atM cls names, w.before args s = true) (hgood : ∀ w ∈ vx_atM cls names, vx_ot w = true)
    (hU : vx_Zq Bundle.tN "UNASSIGNED_STACK" Bundle.steD A s s.heap) (hN : vx_Zq Bundle.tN "SUPPRESSED_SENTINEL" Bundle.listD A s s.heap) (hS : va_S A s.heap H locs) (hsize : ls.size = c.maxLocals)
    (htext : (text == notModelled) = false) (hnb : (stringBytes (stringToUtf16 text)).size ≤ nb) (hnb1 : nb ≤ 1000)
    (hRframes : names.length + 4 < R.frames) (hRlocals : (rest.map fun v => v.category).sum + 10240 ≤ R.locals) (hshort : 13 * names.length + 55 ≤ 10240) (hRcells : cells + 3 ≤ R.cells) (hRslots : slots + (nb + 10) ≤ R.slots) (hlocks : meth.locks = false)
    (k : ∀ (H1 : Heap) (q9 : Addr) (ce : Cell), H.size ≤ H1.size → (∀ q : Nat, q < H.size → H1[q]? = H[q]?) → va_S A s.heap H1 locs → H1[q9]? = some ce → ce.vm = .none → s.vm.findClass cls = some ce.cls → vx_W p l e R s m args below meth c H1 locs (cells + 3) (slots + (nb + 10)) Q (F0 m pc ls rest) q9) :
    vx_Note p l e R s m args below meth c H locs cells slots Q (F0 m pc ls rest) cls text := by
  intro T hT X
  have htr : e.platform.stackTraces = false := (show e.platform.stackTraces = l.stackTraces by rw [X.admits.platform]).trans hl
  have Y := vx_rebase X (R' := { frames := R.frames, locals := R.locals, cells := 3, slots := nb + 10 }) (Nat.le_refl _) (Nat.le_refl _) hRcells hRslots
  have hhp : ((T.setVm s.vm).setFrames (.invoking m args :: below)).heap = H := hT
  have hW0 : s.WarmedH ((T.setVm s.vm).setFrames (.invoking m args :: below)).vm := State.WarmedH.refl s
  have hat' : ∀ w ∈ vx_atM cls names, w.before args ((T.setVm s.vm).setFrames (.invoking m args :: below)) = true := fun w hw => vx_ot_at hW0 rfl (hgood w hw) (hat w hw)
  have hU' : vx_Zq Bundle.tN "UNASSIGNED_STACK" Bundle.steD A ((T.setVm s.vm).setFrames (.invoking m args :: below)) ((T.setVm s.vm).setFrames (.invoking m args :: below)).heap := by rw [hhp]; exact vx_Zq.moved hW0.alike (hU.kept hS.2.1)
  have hN' : vx_Zq Bundle.tN "SUPPRESSED_SENTINEL" Bundle.listD A ((T.setVm s.vm).setFrames (.invoking m args :: below)) ((T.setVm s.vm).setFrames (.invoking m args :: below)).heap := by rw [hhp]; exact vx_Zq.moved hW0.alike (hN.kept hS.2.1)
  obtain ⟨S, q, ce, st, Z, hce, hcl', hv⟩ := vx_vmAt Y hexec htr (cls := cls) (names := names) (text := text) hcls hnames hsoe hoom (vx_own hat' (vx_isRefq hU'.1) (vx_isRefq hN'.1) hU'.2.word hN'.2.word) (fun x hx => nomatch hx) htext
    (by rw [Launch.admits_arrayLengthLimit X.admits]; omega) (by rw [Launch.admits_maxHeapBytes X.admits]; simp only [componentBytes]; omega)
    (g := F0 m pc ls rest) rfl hsize hRframes (by show 2 * 0 + (rest.map fun v => v.category).sum + 10240 ≤ R.locals; omega) hshort (by show 0 + 3 ≤ 3; omega) (by show 0 + (_ + 4 + 6) ≤ nb + 10; omega) hlocks
  obtain ⟨f1, f2⟩ := vx_frame Z.same
  have f1' : H.size ≤ S.heap.size := by rw [← hT]; exact f1
  have f2' : ∀ q : Nat, q < H.size → S.heap[q]? = H[q]? := fun q hq => by
    rw [← hT]
    exact f2 q (by rw [← hT] at hq; exact hq) (fun z hz => nomatch hz)
  have X5 := vx_back9 X Y Z
  have X6 : Stand p l e R s m args below meth c S locs (cells + 3) (slots + (nb + 10)) := { X5 with same := X5.same.mono (by omega) (by omega) }
  obtain ⟨t, a1, b1⟩ := k S.heap q ce f1' f2' ⟨Nat.le_trans hS.1 f1', fun q h1 h2 => (f2' q (Nat.lt_of_lt_of_le h1 hS.1)).trans (hS.2.1 q h1 h2), hS.2.2⟩ hce hv hcl' S rfl X6
  exact ⟨t, st t a1, b1⟩
/-- from the machine's note that NullPointerException is thrown here -/
def vx_NoteN (p : Program) (l : Launch) (e : Env) (R : Room) (s : State) (m : MethodId) (args : Array Value) (below : List Frame) (meth : Method) (c : Code) (H : Heap) (locs : List Loc) (cells slots : Nat) (Q : State → Prop) (g : JFrame) : Prop :=
  ∀ T : State, T.heap = H → Stand p l e R s m args below meth c T locs cells slots → ∃ t, Steps p.tables e below ((T.setTop g).pushFrame (.throwNew "java/lang/NullPointerException" none none)) t ∧ Q t
theorem vx_npe {pc : Nat} {ls : Array Slot} {rest : List Value} {Q : State → Prop} (hexec : p.tables.exec = Jvm.exec) (hl : l.stackTraces = false) {nb : Nat} {A : Nat → Prop}
    (hat : ∀ w ∈ vx_atN nb, w.before args s = true) (hgood : ∀ w ∈ vx_atN nb, vx_ot w = true)
    (hU : vx_Zq Bundle.tN "UNASSIGNED_STACK" Bundle.steD A s s.heap) (hN : vx_Zq Bundle.tN "SUPPRESSED_SENTINEL" Bundle.listD A s s.heap) (hS : va_S A s.heap H locs) (hsize : ls.size = c.maxLocals)
    (hRframes : 7 < R.frames) (hRlocals : (rest.map fun v => v.category).sum + 10240 ≤ R.locals) (hRcells : cells + 1 ≤ R.cells) (hRslots : slots + nb ≤ R.slots) (hlocks : meth.locks = false)
    (k : ∀ (H1 : Heap) (q9 : Addr) (ce : Cell), H.size ≤ H1.size → (∀ q : Nat, q < H.size → H1[q]? = H[q]?) → va_S A s.heap H1 locs → H1[q9]? = some ce → ce.vm = .none → s.vm.findClass "java/lang/NullPointerException" = some ce.cls → vx_W p l e R s m args below meth c H1 locs (cells + 1) (slots + nb) Q (F0 m pc ls rest) q9) :
    vx_NoteN p l e R s m args below meth c H locs cells slots Q (F0 m pc ls rest) := by
  intro T hT X
  have htr : e.platform.stackTraces = false := (show e.platform.stackTraces = l.stackTraces by rw [X.admits.platform]).trans hl
  have Y := vx_rebase X (R' := { frames := R.frames, locals := R.locals, cells := 1, slots := nb }) (Nat.le_refl _) (Nat.le_refl _) hRcells hRslots
  have hhp : ((T.setVm s.vm).setFrames (.invoking m args :: below)).heap = H := hT
  have hW0 : s.WarmedH ((T.setVm s.vm).setFrames (.invoking m args :: below)).vm := State.WarmedH.refl s
  have hat' : ∀ w ∈ vx_atN nb, w.before args ((T.setVm s.vm).setFrames (.invoking m args :: below)) = true := fun w hw => vx_ot_at hW0 rfl (hgood w hw) (hat w hw)
  have hU' : vx_Zq Bundle.tN "UNASSIGNED_STACK" Bundle.steD A ((T.setVm s.vm).setFrames (.invoking m args :: below)) ((T.setVm s.vm).setFrames (.invoking m args :: below)).heap := by rw [hhp]; exact vx_Zq.moved hW0.alike (hU.kept hS.2.1)
  have hN' : vx_Zq Bundle.tN "SUPPRESSED_SENTINEL" Bundle.listD A ((T.setVm s.vm).setFrames (.invoking m args :: below)) ((T.setVm s.vm).setFrames (.invoking m args :: below)).heap := by rw [hhp]; exact vx_Zq.moved hW0.alike (hN.kept hS.2.1)
  obtain ⟨S, q, ce, st, Z, hce, hcl', hv⟩ := vx_npeAt Y hexec htr (n := nb) (vx_own hat' (vx_isRefq hU'.1) (vx_isRefq hN'.1) hU'.2.word hN'.2.word) (fun x hx => nomatch hx)
    (g := F0 m pc ls rest) rfl hsize hRframes (by show 2 * 0 + (rest.map fun v => v.category).sum + 10240 ≤ R.locals; omega) (by show 0 + 1 ≤ 1; omega) (by show 0 + nb ≤ nb; omega) hlocks
  obtain ⟨f1, f2⟩ := vx_frame Z.same
  have f1' : H.size ≤ S.heap.size := by rw [← hT]; exact f1
  have f2' : ∀ q : Nat, q < H.size → S.heap[q]? = H[q]? := fun q hq => by
    rw [← hT]
    exact f2 q (by rw [← hT] at hq; exact hq) (fun z hz => nomatch hz)
  have X5 := vx_back9 X Y Z
  have X6 : Stand p l e R s m args below meth c S locs (cells + 1) (slots + nb) := { X5 with same := X5.same.mono (by omega) (by omega) }
  obtain ⟨t, a1, b1⟩ := k S.heap q ce f1' f2' ⟨Nat.le_trans hS.1 f1', fun q h1 h2 => (f2' q (Nat.lt_of_lt_of_le h1 hS.1)).trans (hS.2.1 q h1 h2), hS.2.2⟩ hce hv hcl' S rfl X6
  exact ⟨t, st t a1, b1⟩
variable {Q : State → Prop} {cc : ByteArray} {pc : Nat} {ls : Array Slot} {rest : List Value}
theorem vx_idivZ (hexec : p.tables.exec = Jvm.exec) (hb : c.code = cc) {a b : Int32} (h0 : b = 0) (d : decode cc pc = .ok (.idiv, 1)) (k : vx_Note p l e R s m args below meth c H locs cells slots Q (F0 m pc ls rest) "java/lang/ArithmeticException" "/ by zero") :
    W p l e R s m args below meth c H locs cells slots Q (F0 m pc ls (.int b :: .int a :: rest)) := by
  intro T hT X
  obtain ⟨t, st, q⟩ := k T hT X
  exact ⟨t, X.idivZero hexec (g := F0 m pc ls (.int b :: .int a :: rest)) rfl (a := a) (rest := rest) (by rw [h0]) (by rw [hb]; exact d) t st, q⟩
theorem vx_iremZ (hexec : p.tables.exec = Jvm.exec) (hb : c.code = cc) {a b : Int32} (h0 : b = 0) (d : decode cc pc = .ok (.irem, 1)) (k : vx_Note p l e R s m args below meth c H locs cells slots Q (F0 m pc ls rest) "java/lang/ArithmeticException" "/ by zero") :
    W p l e R s m args below meth c H locs cells slots Q (F0 m pc ls (.int b :: .int a :: rest)) := by
  intro T hT X
  obtain ⟨t, st, q⟩ := k T hT X
  exact ⟨t, X.iremZero hexec (g := F0 m pc ls (.int b :: .int a :: rest)) rfl (a := a) (rest := rest) (by rw [h0]) (by rw [hb]; exact d) t st, q⟩
theorem vx_ldivZ (hexec : p.tables.exec = Jvm.exec) (hb : c.code = cc) {a b : Int64} (h0 : b = 0) (d : decode cc pc = .ok (.ldiv, 1)) (k : vx_Note p l e R s m args below meth c H locs cells slots Q (F0 m pc ls rest) "java/lang/ArithmeticException" "/ by zero") :
    W p l e R s m args below meth c H locs cells slots Q (F0 m pc ls (.long b :: .long a :: rest)) := by
  intro T hT X
  obtain ⟨t, st, q⟩ := k T hT X
  exact ⟨t, X.ldivZero hexec (g := F0 m pc ls (.long b :: .long a :: rest)) rfl (a := a) (rest := rest) (by rw [h0]) (by rw [hb]; exact d) t st, q⟩
theorem vx_lremZ (hexec : p.tables.exec = Jvm.exec) (hb : c.code = cc) {a b : Int64} (h0 : b = 0) (d : decode cc pc = .ok (.lrem, 1)) (k : vx_Note p l e R s m args below meth c H locs cells slots Q (F0 m pc ls rest) "java/lang/ArithmeticException" "/ by zero") :
    W p l e R s m args below meth c H locs cells slots Q (F0 m pc ls (.long b :: .long a :: rest)) := by
  intro T hT X
  obtain ⟨t, st, q⟩ := k T hT X
  exact ⟨t, X.lremZero hexec (g := F0 m pc ls (.long b :: .long a :: rest)) rfl (a := a) (rest := rest) (by rw [h0]) (by rw [hb]; exact d) t st, q⟩
theorem vx_ialdZ {D : va_G} {cl : List vw_C} {ws : va_W} {tys : List (ClassId × FieldType)} {a : Nat} (hexec : p.tables.exec = Jvm.exec) (hb : c.code = cc) (hK : va_K D cl tys s) (hP : va_P D cl ws H) (q0 t0 : Nat) {cA : ClassId} {n : Nat} {f : Nat → Int32} (ha : ws[q0]? = some (a, .inl (cA, n, .inl f))) (ht : tys[t0]? = some (cA, .int)) {i : Int32} (hout : ¬ vp_in i n) (hdg : decode cc pc = .ok (.iaload, 1))
    (k : ∀ tx : String, tx = (toString "Index " ++ toString i ++ toString " out of bounds for length " ++ toString n : String) → vx_Note p l e R s m args below meth c H locs cells slots Q (F0 m pc ls rest) "java/lang/ArrayIndexOutOfBoundsException" tx) : W p l e R s m args below meth c H locs cells slots Q (F0 m pc ls (.int i :: .ref a :: rest)) := by
  intro T hT X
  obtain ⟨t, st, q⟩ := k _ rfl T hT X
  refine ⟨t, ?_, q⟩
  have h1 := X.ialoadOut hexec (by rw [hT]; exact hP q0 _ ha) ((hK.2 t0 _ ht).1 n (fun j => .int (f j))) (j := i) (by show (i < 0 ∨ (arrV _ _ _).slots.size ≤ _); rw [arrV_size]; exact Classical.byContradiction hout) (g := F0 m pc ls (.int i :: .ref a :: rest)) rfl (rest := rest) rfl (by rw [hb]; exact hdg) t
  simp only [arrV_size] at h1
  exact h1 st
theorem vx_iastZ {D : va_G} {cl : List vw_C} {ws : va_W} {tys : List (ClassId × FieldType)} {a : Nat} (hexec : p.tables.exec = Jvm.exec) (hb : c.code = cc) (hK : va_K D cl tys s) (hP : va_P D cl ws H) (q0 t0 : Nat) {cA : ClassId} {n : Nat} {f : Nat → Int32} (ha : ws[q0]? = some (a, .inl (cA, n, .inl f))) (ht : tys[t0]? = some (cA, .int)) {i : Int32} {x : Int32} (hout : ¬ vp_in i n) (hdg : decode cc pc = .ok (.iastore, 1))
    (k : ∀ tx : String, tx = (toString "Index " ++ toString i ++ toString " out of bounds for length " ++ toString n : String) → vx_Note p l e R s m args below meth c H locs cells slots Q (F0 m pc ls rest) "java/lang/ArrayIndexOutOfBoundsException" tx) : W p l e R s m args below meth c H locs cells slots Q (F0 m pc ls (.int x :: .int i :: .ref a :: rest)) := by
  intro T hT X
  obtain ⟨t, st, q⟩ := k _ rfl T hT X
  refine ⟨t, ?_, q⟩
  have h1 := X.iastoreOut hexec (by rw [hT]; exact hP q0 _ ha) ((hK.2 t0 _ ht).1 n (fun j => .int (f j))) (j := i) (by show (i < 0 ∨ (arrV _ _ _).slots.size ≤ _); rw [arrV_size]; exact Classical.byContradiction hout) (g := F0 m pc ls (.int x :: .int i :: .ref a :: rest)) rfl (rest := rest) rfl (by rw [hb]; exact hdg) t
  simp only [arrV_size] at h1
  exact h1 st
theorem vx_baldZ {D : va_G} {cl : List vw_C} {ws : va_W} {tys : List (ClassId × FieldType)} {a : Nat} (hexec : p.tables.exec = Jvm.exec) (hb : c.code = cc) (hK : va_K D cl tys s) (hP : va_P D cl ws H) (q0 t0 : Nat) {cA : ClassId} {n : Nat} {f : Nat → Int32} (ha : ws[q0]? = some (a, .inl (cA, n, .inl f))) (ht : tys[t0]? = some (cA, .byte)) {i : Int32} (hout : ¬ vp_in i n) (hdg : decode cc pc = .ok (.baload, 1))
    (k : ∀ tx : String, tx = (toString "Index " ++ toString i ++ toString " out of bounds for length " ++ toString n : String) → vx_Note p l e R s m args below meth c H locs cells slots Q (F0 m pc ls rest) "java/lang/ArrayIndexOutOfBoundsException" tx) : W p l e R s m args below meth c H locs cells slots Q (F0 m pc ls (.int i :: .ref a :: rest)) := by
  intro T hT X
  obtain ⟨t, st, q⟩ := k _ rfl T hT X
  refine ⟨t, ?_, q⟩
  have h1 := X.baloadOut hexec (by rw [hT]; exact hP q0 _ ha) ((hK.2 t0 _ ht).1 n (fun j => .int (f j))) (j := i) (by show (i < 0 ∨ (arrV _ _ _).slots.size ≤ _); rw [arrV_size]; exact Classical.byContradiction hout) (g := F0 m pc ls (.int i :: .ref a :: rest)) rfl (rest := rest) rfl (by rw [hb]; exact hdg) t
  simp only [arrV_size] at h1
  exact h1 st
theorem vx_bastZ {D : va_G} {cl : List vw_C} {ws : va_W} {tys : List (ClassId × FieldType)} {a : Nat} (hexec : p.tables.exec = Jvm.exec) (hb : c.code = cc) (hK : va_K D cl tys s) (hP : va_P D cl ws H) (q0 t0 : Nat) {cA : ClassId} {n : Nat} {f : Nat → Int32} (ha : ws[q0]? = some (a, .inl (cA, n, .inl f))) (ht : tys[t0]? = some (cA, .byte)) {i : Int32} {x : Int32} (hout : ¬ vp_in i n) (hdg : decode cc pc = .ok (.bastore, 1))
    (k : ∀ tx : String, tx = (toString "Index " ++ toString i ++ toString " out of bounds for length " ++ toString n : String) → vx_Note p l e R s m args below meth c H locs cells slots Q (F0 m pc ls rest) "java/lang/ArrayIndexOutOfBoundsException" tx) : W p l e R s m args below meth c H locs cells slots Q (F0 m pc ls (.int x :: .int i :: .ref a :: rest)) := by
  intro T hT X
  obtain ⟨t, st, q⟩ := k _ rfl T hT X
  refine ⟨t, ?_, q⟩
  have h1 := X.bastoreOut hexec (by rw [hT]; exact hP q0 _ ha) ((hK.2 t0 _ ht).1 n (fun j => .int (f j))) (j := i) (by show (i < 0 ∨ (arrV _ _ _).slots.size ≤ _); rw [arrV_size]; exact Classical.byContradiction hout) (g := F0 m pc ls (.int x :: .int i :: .ref a :: rest)) rfl (rest := rest) rfl (by rw [hb]; exact hdg) t
  simp only [arrV_size] at h1
  exact h1 st
theorem vx_zaldZ {D : va_G} {cl : List vw_C} {ws : va_W} {tys : List (ClassId × FieldType)} {a : Nat} (hexec : p.tables.exec = Jvm.exec) (hb : c.code = cc) (hK : va_K D cl tys s) (hP : va_P D cl ws H) (q0 t0 : Nat) {cA : ClassId} {n : Nat} {f : Nat → Int32} (ha : ws[q0]? = some (a, .inl (cA, n, .inl f))) (ht : tys[t0]? = some (cA, .boolean)) {i : Int32} (hout : ¬ vp_in i n) (hdg : decode cc pc = .ok (.baload, 1))
    (k : ∀ tx : String, tx = (toString "Index " ++ toString i ++ toString " out of bounds for length " ++ toString n : String) → vx_Note p l e R s m args below meth c H locs cells slots Q (F0 m pc ls rest) "java/lang/ArrayIndexOutOfBoundsException" tx) : W p l e R s m args below meth c H locs cells slots Q (F0 m pc ls (.int i :: .ref a :: rest)) := by
  intro T hT X
  obtain ⟨t, st, q⟩ := k _ rfl T hT X
  refine ⟨t, ?_, q⟩
  have h1 := X.baloadOut hexec (by rw [hT]; exact hP q0 _ ha) ((hK.2 t0 _ ht).1 n (fun j => .int (f j))) (j := i) (by show (i < 0 ∨ (arrV _ _ _).slots.size ≤ _); rw [arrV_size]; exact Classical.byContradiction hout) (g := F0 m pc ls (.int i :: .ref a :: rest)) rfl (rest := rest) rfl (by rw [hb]; exact hdg) t
  simp only [arrV_size] at h1
  exact h1 st
theorem vx_zastZ {D : va_G} {cl : List vw_C} {ws : va_W} {tys : List (ClassId × FieldType)} {a : Nat} (hexec : p.tables.exec = Jvm.exec) (hb : c.code = cc) (hK : va_K D cl tys s) (hP : va_P D cl ws H) (q0 t0 : Nat) {cA : ClassId} {n : Nat} {f : Nat → Int32} (ha : ws[q0]? = some (a, .inl (cA, n, .inl f))) (ht : tys[t0]? = some (cA, .boolean)) {i : Int32} {x : Int32} (hout : ¬ vp_in i n) (hdg : decode cc pc = .ok (.bastore, 1))
    (k : ∀ tx : String, tx = (toString "Index " ++ toString i ++ toString " out of bounds for length " ++ toString n : String) → vx_Note p l e R s m args below meth c H locs cells slots Q (F0 m pc ls rest) "java/lang/ArrayIndexOutOfBoundsException" tx) : W p l e R s m args below meth c H locs cells slots Q (F0 m pc ls (.int x :: .int i :: .ref a :: rest)) := by
  intro T hT X
  obtain ⟨t, st, q⟩ := k _ rfl T hT X
  refine ⟨t, ?_, q⟩
  have h1 := X.bastoreOut hexec (by rw [hT]; exact hP q0 _ ha) ((hK.2 t0 _ ht).1 n (fun j => .int (f j))) (j := i) (by show (i < 0 ∨ (arrV _ _ _).slots.size ≤ _); rw [arrV_size]; exact Classical.byContradiction hout) (g := F0 m pc ls (.int x :: .int i :: .ref a :: rest)) rfl (rest := rest) rfl (by rw [hb]; exact hdg) t
  simp only [arrV_size] at h1
  exact h1 st
theorem vx_caldZ {D : va_G} {cl : List vw_C} {ws : va_W} {tys : List (ClassId × FieldType)} {a : Nat} (hexec : p.tables.exec = Jvm.exec) (hb : c.code = cc) (hK : va_K D cl tys s) (hP : va_P D cl ws H) (q0 t0 : Nat) {cA : ClassId} {n : Nat} {f : Nat → Int32} (ha : ws[q0]? = some (a, .inl (cA, n, .inl f))) (ht : tys[t0]? = some (cA, .char)) {i : Int32} (hout : ¬ vp_in i n) (hdg : decode cc pc = .ok (.caload, 1))
    (k : ∀ tx : String, tx = (toString "Index " ++ toString i ++ toString " out of bounds for length " ++ toString n : String) → vx_Note p l e R s m args below meth c H locs cells slots Q (F0 m pc ls rest) "java/lang/ArrayIndexOutOfBoundsException" tx) : W p l e R s m args below meth c H locs cells slots Q (F0 m pc ls (.int i :: .ref a :: rest)) := by
  intro T hT X
  obtain ⟨t, st, q⟩ := k _ rfl T hT X
  refine ⟨t, ?_, q⟩
  have h1 := X.caloadOut hexec (by rw [hT]; exact hP q0 _ ha) ((hK.2 t0 _ ht).1 n (fun j => .int (f j))) (j := i) (by show (i < 0 ∨ (arrV _ _ _).slots.size ≤ _); rw [arrV_size]; exact Classical.byContradiction hout) (g := F0 m pc ls (.int i :: .ref a :: rest)) rfl (rest := rest) rfl (by rw [hb]; exact hdg) t
  simp only [arrV_size] at h1
  exact h1 st
theorem vx_castZ {D : va_G} {cl : List vw_C} {ws : va_W} {tys : List (ClassId × FieldType)} {a : Nat} (hexec : p.tables.exec = Jvm.exec) (hb : c.code = cc) (hK : va_K D cl tys s) (hP : va_P D cl ws H) (q0 t0 : Nat) {cA : ClassId} {n : Nat} {f : Nat → Int32} (ha : ws[q0]? = some (a, .inl (cA, n, .inl f))) (ht : tys[t0]? = some (cA, .char)) {i : Int32} {x : Int32} (hout : ¬ vp_in i n) (hdg : decode cc pc = .ok (.castore, 1))
    (k : ∀ tx : String, tx = (toString "Index " ++ toString i ++ toString " out of bounds for length " ++ toString n : String) → vx_Note p l e R s m args below meth c H locs cells slots Q (F0 m pc ls rest) "java/lang/ArrayIndexOutOfBoundsException" tx) : W p l e R s m args below meth c H locs cells slots Q (F0 m pc ls (.int x :: .int i :: .ref a :: rest)) := by
  intro T hT X
  obtain ⟨t, st, q⟩ := k _ rfl T hT X
  refine ⟨t, ?_, q⟩
  have h1 := X.castoreOut hexec (by rw [hT]; exact hP q0 _ ha) ((hK.2 t0 _ ht).1 n (fun j => .int (f j))) (j := i) (by show (i < 0 ∨ (arrV _ _ _).slots.size ≤ _); rw [arrV_size]; exact Classical.byContradiction hout) (g := F0 m pc ls (.int x :: .int i :: .ref a :: rest)) rfl (rest := rest) rfl (by rw [hb]; exact hdg) t
  simp only [arrV_size] at h1
  exact h1 st
theorem vx_saldZ {D : va_G} {cl : List vw_C} {ws : va_W} {tys : List (ClassId × FieldType)} {a : Nat} (hexec : p.tables.exec = Jvm.exec) (hb : c.code = cc) (hK : va_K D cl tys s) (hP : va_P D cl ws H) (q0 t0 : Nat) {cA : ClassId} {n : Nat} {f : Nat → Int32} (ha : ws[q0]? = some (a, .inl (cA, n, .inl f))) (ht : tys[t0]? = some (cA, .short)) {i : Int32} (hout : ¬ vp_in i n) (hdg : decode cc pc = .ok (.saload, 1))
    (k : ∀ tx : String, tx = (toString "Index " ++ toString i ++ toString " out of bounds for length " ++ toString n : String) → vx_Note p l e R s m args below meth c H locs cells slots Q (F0 m pc ls rest) "java/lang/ArrayIndexOutOfBoundsException" tx) : W p l e R s m args below meth c H locs cells slots Q (F0 m pc ls (.int i :: .ref a :: rest)) := by
  intro T hT X
  obtain ⟨t, st, q⟩ := k _ rfl T hT X
  refine ⟨t, ?_, q⟩
  have h1 := X.saloadOut hexec (by rw [hT]; exact hP q0 _ ha) ((hK.2 t0 _ ht).1 n (fun j => .int (f j))) (j := i) (by show (i < 0 ∨ (arrV _ _ _).slots.size ≤ _); rw [arrV_size]; exact Classical.byContradiction hout) (g := F0 m pc ls (.int i :: .ref a :: rest)) rfl (rest := rest) rfl (by rw [hb]; exact hdg) t
  simp only [arrV_size] at h1
  exact h1 st
theorem vx_sastZ {D : va_G} {cl : List vw_C} {ws : va_W} {tys : List (ClassId × FieldType)} {a : Nat} (hexec : p.tables.exec = Jvm.exec) (hb : c.code = cc) (hK : va_K D cl tys s) (hP : va_P D cl ws H) (q0 t0 : Nat) {cA : ClassId} {n : Nat} {f : Nat → Int32} (ha : ws[q0]? = some (a, .inl (cA, n, .inl f))) (ht : tys[t0]? = some (cA, .short)) {i : Int32} {x : Int32} (hout : ¬ vp_in i n) (hdg : decode cc pc = .ok (.sastore, 1))
    (k : ∀ tx : String, tx = (toString "Index " ++ toString i ++ toString " out of bounds for length " ++ toString n : String) → vx_Note p l e R s m args below meth c H locs cells slots Q (F0 m pc ls rest) "java/lang/ArrayIndexOutOfBoundsException" tx) : W p l e R s m args below meth c H locs cells slots Q (F0 m pc ls (.int x :: .int i :: .ref a :: rest)) := by
  intro T hT X
  obtain ⟨t, st, q⟩ := k _ rfl T hT X
  refine ⟨t, ?_, q⟩
  have h1 := X.sastoreOut hexec (by rw [hT]; exact hP q0 _ ha) ((hK.2 t0 _ ht).1 n (fun j => .int (f j))) (j := i) (by show (i < 0 ∨ (arrV _ _ _).slots.size ≤ _); rw [arrV_size]; exact Classical.byContradiction hout) (g := F0 m pc ls (.int x :: .int i :: .ref a :: rest)) rfl (rest := rest) rfl (by rw [hb]; exact hdg) t
  simp only [arrV_size] at h1
  exact h1 st
theorem vx_laldZ {D : va_G} {cl : List vw_C} {ws : va_W} {tys : List (ClassId × FieldType)} {a : Nat} (hexec : p.tables.exec = Jvm.exec) (hb : c.code = cc) (hK : va_K D cl tys s) (hP : va_P D cl ws H) (q0 t0 : Nat) {cA : ClassId} {n : Nat} {f : Nat → Int64} (ha : ws[q0]? = some (a, .inl (cA, n, .inr (.inl f)))) (ht : tys[t0]? = some (cA, .long)) {i : Int32} (hout : ¬ vp_in i n) (hdg : decode cc pc = .ok (.laload, 1))
    (k : ∀ tx : String, tx = (toString "Index " ++ toString i ++ toString " out of bounds for length " ++ toString n : String) → vx_Note p l e R s m args below meth c H locs cells slots Q (F0 m pc ls rest) "java/lang/ArrayIndexOutOfBoundsException" tx) : W p l e R s m args below meth c H locs cells slots Q (F0 m pc ls (.int i :: .ref a :: rest)) := by
  intro T hT X
  obtain ⟨t, st, q⟩ := k _ rfl T hT X
  refine ⟨t, ?_, q⟩
  have h1 := X.laloadOut hexec (by rw [hT]; exact hP q0 _ ha) ((hK.2 t0 _ ht).1 n (fun j => .long (f j))) (j := i) (by show (i < 0 ∨ (arrV _ _ _).slots.size ≤ _); rw [arrV_size]; exact Classical.byContradiction hout) (g := F0 m pc ls (.int i :: .ref a :: rest)) rfl (rest := rest) rfl (by rw [hb]; exact hdg) t
  simp only [arrV_size] at h1
  exact h1 st
theorem vx_lastZ {D : va_G} {cl : List vw_C} {ws : va_W} {tys : List (ClassId × FieldType)} {a : Nat} (hexec : p.tables.exec = Jvm.exec) (hb : c.code = cc) (hK : va_K D cl tys s) (hP : va_P D cl ws H) (q0 t0 : Nat) {cA : ClassId} {n : Nat} {f : Nat → Int64} (ha : ws[q0]? = some (a, .inl (cA, n, .inr (.inl f)))) (ht : tys[t0]? = some (cA, .long)) {i : Int32} {x : Int64} (hout : ¬ vp_in i n) (hdg : decode cc pc = .ok (.lastore, 1))
    (k : ∀ tx : String, tx = (toString "Index " ++ toString i ++ toString " out of bounds for length " ++ toString n : String) → vx_Note p l e R s m args below meth c H locs cells slots Q (F0 m pc ls rest) "java/lang/ArrayIndexOutOfBoundsException" tx) : W p l e R s m args below meth c H locs cells slots Q (F0 m pc ls (.long x :: .int i :: .ref a :: rest)) := by
  intro T hT X
  obtain ⟨t, st, q⟩ := k _ rfl T hT X
  refine ⟨t, ?_, q⟩
  have h1 := X.lastoreOut hexec (by rw [hT]; exact hP q0 _ ha) ((hK.2 t0 _ ht).1 n (fun j => .long (f j))) (j := i) (by show (i < 0 ∨ (arrV _ _ _).slots.size ≤ _); rw [arrV_size]; exact Classical.byContradiction hout) (g := F0 m pc ls (.long x :: .int i :: .ref a :: rest)) rfl (rest := rest) rfl (by rw [hb]; exact hdg) t
  simp only [arrV_size] at h1
  exact h1 st
theorem vx_faldZ {D : va_G} {cl : List vw_C} {ws : va_W} {tys : List (ClassId × FieldType)} {a : Nat} (hexec : p.tables.exec = Jvm.exec) (hb : c.code = cc) (hK : va_K D cl tys s) (hP : va_P D cl ws H) (q0 t0 : Nat) {cA : ClassId} {n : Nat} {f : Nat → UInt32} (ha : ws[q0]? = some (a, .inl (cA, n, .inr (.inr (.inl f))))) (ht : tys[t0]? = some (cA, .float)) {i : Int32} (hout : ¬ vp_in i n) (hdg : decode cc pc = .ok (.faload, 1))
    (k : ∀ tx : String, tx = (toString "Index " ++ toString i ++ toString " out of bounds for length " ++ toString n : String) → vx_Note p l e R s m args below meth c H locs cells slots Q (F0 m pc ls rest) "java/lang/ArrayIndexOutOfBoundsException" tx) : W p l e R s m args below meth c H locs cells slots Q (F0 m pc ls (.int i :: .ref a :: rest)) := by
  intro T hT X
  obtain ⟨t, st, q⟩ := k _ rfl T hT X
  refine ⟨t, ?_, q⟩
  have h1 := X.faloadOut hexec (by rw [hT]; exact hP q0 _ ha) ((hK.2 t0 _ ht).1 n (fun j => .float (f j))) (j := i) (by show (i < 0 ∨ (arrV _ _ _).slots.size ≤ _); rw [arrV_size]; exact Classical.byContradiction hout) (g := F0 m pc ls (.int i :: .ref a :: rest)) rfl (rest := rest) rfl (by rw [hb]; exact hdg) t
  simp only [arrV_size] at h1
  exact h1 st
theorem vx_fastZ {D : va_G} {cl : List vw_C} {ws : va_W} {tys : List (ClassId × FieldType)} {a : Nat} (hexec : p.tables.exec = Jvm.exec) (hb : c.code = cc) (hK : va_K D cl tys s) (hP : va_P D cl ws H) (q0 t0 : Nat) {cA : ClassId} {n : Nat} {f : Nat → UInt32} (ha : ws[q0]? = some (a, .inl (cA, n, .inr (.inr (.inl f))))) (ht : tys[t0]? = some (cA, .float)) {i : Int32} {x : UInt32} (hout : ¬ vp_in i n) (hdg : decode cc pc = .ok (.fastore, 1))
    (k : ∀ tx : String, tx = (toString "Index " ++ toString i ++ toString " out of bounds for length " ++ toString n : String) → vx_Note p l e R s m args below meth c H locs cells slots Q (F0 m pc ls rest) "java/lang/ArrayIndexOutOfBoundsException" tx) : W p l e R s m args below meth c H locs cells slots Q (F0 m pc ls (.float x :: .int i :: .ref a :: rest)) := by
  intro T hT X
  obtain ⟨t, st, q⟩ := k _ rfl T hT X
  refine ⟨t, ?_, q⟩
  have h1 := X.fastoreOut hexec (by rw [hT]; exact hP q0 _ ha) ((hK.2 t0 _ ht).1 n (fun j => .float (f j))) (j := i) (by show (i < 0 ∨ (arrV _ _ _).slots.size ≤ _); rw [arrV_size]; exact Classical.byContradiction hout) (g := F0 m pc ls (.float x :: .int i :: .ref a :: rest)) rfl (rest := rest) rfl (by rw [hb]; exact hdg) t
  simp only [arrV_size] at h1
  exact h1 st
theorem vx_daldZ {D : va_G} {cl : List vw_C} {ws : va_W} {tys : List (ClassId × FieldType)} {a : Nat} (hexec : p.tables.exec = Jvm.exec) (hb : c.code = cc) (hK : va_K D cl tys s) (hP : va_P D cl ws H) (q0 t0 : Nat) {cA : ClassId} {n : Nat} {f : Nat → UInt64} (ha : ws[q0]? = some (a, .inl (cA, n, .inr (.inr (.inr (.inl f)))))) (ht : tys[t0]? = some (cA, .double)) {i : Int32} (hout : ¬ vp_in i n) (hdg : decode cc pc = .ok (.daload, 1))
    (k : ∀ tx : String, tx = (toString "Index " ++ toString i ++ toString " out of bounds for length " ++ toString n : String) → vx_Note p l e R s m args below meth c H locs cells slots Q (F0 m pc ls rest) "java/lang/ArrayIndexOutOfBoundsException" tx) : W p l e R s m args below meth c H locs cells slots Q (F0 m pc ls (.int i :: .ref a :: rest)) := by
  intro T hT X
  obtain ⟨t, st, q⟩ := k _ rfl T hT X
  refine ⟨t, ?_, q⟩
  have h1 := X.daloadOut hexec (by rw [hT]; exact hP q0 _ ha) ((hK.2 t0 _ ht).1 n (fun j => .double (f j))) (j := i) (by show (i < 0 ∨ (arrV _ _ _).slots.size ≤ _); rw [arrV_size]; exact Classical.byContradiction hout) (g := F0 m pc ls (.int i :: .ref a :: rest)) rfl (rest := rest) rfl (by rw [hb]; exact hdg) t
  simp only [arrV_size] at h1
  exact h1 st
theorem vx_dastZ {D : va_G} {cl : List vw_C} {ws : va_W} {tys : List (ClassId × FieldType)} {a : Nat} (hexec : p.tables.exec = Jvm.exec) (hb : c.code = cc) (hK : va_K D cl tys s) (hP : va_P D cl ws H) (q0 t0 : Nat) {cA : ClassId} {n : Nat} {f : Nat → UInt64} (ha : ws[q0]? = some (a, .inl (cA, n, .inr (.inr (.inr (.inl f)))))) (ht : tys[t0]? = some (cA, .double)) {i : Int32} {x : UInt64} (hout : ¬ vp_in i n) (hdg : decode cc pc = .ok (.dastore, 1))
    (k : ∀ tx : String, tx = (toString "Index " ++ toString i ++ toString " out of bounds for length " ++ toString n : String) → vx_Note p l e R s m args below meth c H locs cells slots Q (F0 m pc ls rest) "java/lang/ArrayIndexOutOfBoundsException" tx) : W p l e R s m args below meth c H locs cells slots Q (F0 m pc ls (.double x :: .int i :: .ref a :: rest)) := by
  intro T hT X
  obtain ⟨t, st, q⟩ := k _ rfl T hT X
  refine ⟨t, ?_, q⟩
  have h1 := X.dastoreOut hexec (by rw [hT]; exact hP q0 _ ha) ((hK.2 t0 _ ht).1 n (fun j => .double (f j))) (j := i) (by show (i < 0 ∨ (arrV _ _ _).slots.size ≤ _); rw [arrV_size]; exact Classical.byContradiction hout) (g := F0 m pc ls (.double x :: .int i :: .ref a :: rest)) rfl (rest := rest) rfl (by rw [hb]; exact hdg) t
  simp only [arrV_size] at h1
  exact h1 st
theorem vx_arraylengthN (hexec : p.tables.exec = Jvm.exec) (hb : c.code = cc) (hdg : decode cc pc = .ok (.arraylength, 1)) (k : vx_NoteN p l e R s m args below meth c H locs cells slots Q (F0 m pc ls rest)) : W p l e R s m args below meth c H locs cells slots Q (F0 m pc ls (.null :: rest)) := by
  intro T hT X
  obtain ⟨t, st, q⟩ := k T hT X
  exact ⟨t, X.arraylengthNull hexec (g := F0 m pc ls (.null :: rest)) rfl (rest := rest) rfl (by rw [hb]; exact hdg) t st, q⟩
theorem vx_ialoadN (hexec : p.tables.exec = Jvm.exec) (hb : c.code = cc) {i : Int32} (hdg : decode cc pc = .ok (.iaload, 1)) (k : vx_NoteN p l e R s m args below meth c H locs cells slots Q (F0 m pc ls rest)) : W p l e R s m args below meth c H locs cells slots Q (F0 m pc ls (.int i :: .null :: rest)) := by
  intro T hT X
  obtain ⟨t, st, q⟩ := k T hT X
  exact ⟨t, X.ialoadNull hexec (g := F0 m pc ls (.int i :: .null :: rest)) rfl (rest := rest) rfl (by rw [hb]; exact hdg) t st, q⟩
theorem vx_laloadN (hexec : p.tables.exec = Jvm.exec) (hb : c.code = cc) {i : Int32} (hdg : decode cc pc = .ok (.laload, 1)) (k : vx_NoteN p l e R s m args below meth c H locs cells slots Q (F0 m pc ls rest)) : W p l e R s m args below meth c H locs cells slots Q (F0 m pc ls (.int i :: .null :: rest)) := by
  intro T hT X
  obtain ⟨t, st, q⟩ := k T hT X
  exact ⟨t, X.laloadNull hexec (g := F0 m pc ls (.int i :: .null :: rest)) rfl (rest := rest) rfl (by rw [hb]; exact hdg) t st, q⟩
theorem vx_faloadN (hexec : p.tables.exec = Jvm.exec) (hb : c.code = cc) {i : Int32} (hdg : decode cc pc = .ok (.faload, 1)) (k : vx_NoteN p l e R s m args below meth c H locs cells slots Q (F0 m pc ls rest)) : W p l e R s m args below meth c H locs cells slots Q (F0 m pc ls (.int i :: .null :: rest)) := by
  intro T hT X
  obtain ⟨t, st, q⟩ := k T hT X
  exact ⟨t, X.faloadNull hexec (g := F0 m pc ls (.int i :: .null :: rest)) rfl (rest := rest) rfl (by rw [hb]; exact hdg) t st, q⟩
theorem vx_daloadN (hexec : p.tables.exec = Jvm.exec) (hb : c.code = cc) {i : Int32} (hdg : decode cc pc = .ok (.daload, 1)) (k : vx_NoteN p l e R s m args below meth c H locs cells slots Q (F0 m pc ls rest)) : W p l e R s m args below meth c H locs cells slots Q (F0 m pc ls (.int i :: .null :: rest)) := by
  intro T hT X
  obtain ⟨t, st, q⟩ := k T hT X
  exact ⟨t, X.daloadNull hexec (g := F0 m pc ls (.int i :: .null :: rest)) rfl (rest := rest) rfl (by rw [hb]; exact hdg) t st, q⟩
theorem vx_aaloadN (hexec : p.tables.exec = Jvm.exec) (hb : c.code = cc) {i : Int32} (hdg : decode cc pc = .ok (.aaload, 1)) (k : vx_NoteN p l e R s m args below meth c H locs cells slots Q (F0 m pc ls rest)) : W p l e R s m args below meth c H locs cells slots Q (F0 m pc ls (.int i :: .null :: rest)) := by
  intro T hT X
  obtain ⟨t, st, q⟩ := k T hT X
  exact ⟨t, X.aaloadNull hexec (g := F0 m pc ls (.int i :: .null :: rest)) rfl (rest := rest) rfl (by rw [hb]; exact hdg) t st, q⟩
theorem vx_baloadN (hexec : p.tables.exec = Jvm.exec) (hb : c.code = cc) {i : Int32} (hdg : decode cc pc = .ok (.baload, 1)) (k : vx_NoteN p l e R s m args below meth c H locs cells slots Q (F0 m pc ls rest)) : W p l e R s m args below meth c H locs cells slots Q (F0 m pc ls (.int i :: .null :: rest)) := by
  intro T hT X
  obtain ⟨t, st, q⟩ := k T hT X
  exact ⟨t, X.baloadNull hexec (g := F0 m pc ls (.int i :: .null :: rest)) rfl (rest := rest) rfl (by rw [hb]; exact hdg) t st, q⟩
theorem vx_caloadN (hexec : p.tables.exec = Jvm.exec) (hb : c.code = cc) {i : Int32} (hdg : decode cc pc = .ok (.caload, 1)) (k : vx_NoteN p l e R s m args below meth c H locs cells slots Q (F0 m pc ls rest)) : W p l e R s m args below meth c H locs cells slots Q (F0 m pc ls (.int i :: .null :: rest)) := by
  intro T hT X
  obtain ⟨t, st, q⟩ := k T hT X
  exact ⟨t, X.caloadNull hexec (g := F0 m pc ls (.int i :: .null :: rest)) rfl (rest := rest) rfl (by rw [hb]; exact hdg) t st, q⟩
theorem vx_saloadN (hexec : p.tables.exec = Jvm.exec) (hb : c.code = cc) {i : Int32} (hdg : decode cc pc = .ok (.saload, 1)) (k : vx_NoteN p l e R s m args below meth c H locs cells slots Q (F0 m pc ls rest)) : W p l e R s m args below meth c H locs cells slots Q (F0 m pc ls (.int i :: .null :: rest)) := by
  intro T hT X
  obtain ⟨t, st, q⟩ := k T hT X
  exact ⟨t, X.saloadNull hexec (g := F0 m pc ls (.int i :: .null :: rest)) rfl (rest := rest) rfl (by rw [hb]; exact hdg) t st, q⟩
theorem vx_iastoreN (hexec : p.tables.exec = Jvm.exec) (hb : c.code = cc) {x : Int32} {i : Int32} (hdg : decode cc pc = .ok (.iastore, 1)) (k : vx_NoteN p l e R s m args below meth c H locs cells slots Q (F0 m pc ls rest)) : W p l e R s m args below meth c H locs cells slots Q (F0 m pc ls (.int x :: .int i :: .null :: rest)) := by
  intro T hT X
  obtain ⟨t, st, q⟩ := k T hT X
  exact ⟨t, X.iastoreNull hexec (g := F0 m pc ls (.int x :: .int i :: .null :: rest)) rfl (rest := rest) rfl (by rw [hb]; exact hdg) t st, q⟩
theorem vx_lastoreN (hexec : p.tables.exec = Jvm.exec) (hb : c.code = cc) {x : Int64} {i : Int32} (hdg : decode cc pc = .ok (.lastore, 1)) (k : vx_NoteN p l e R s m args below meth c H locs cells slots Q (F0 m pc ls rest)) : W p l e R s m args below meth c H locs cells slots Q (F0 m pc ls (.long x :: .int i :: .null :: rest)) := by
  intro T hT X
  obtain ⟨t, st, q⟩ := k T hT X
  exact ⟨t, X.lastoreNull hexec (g := F0 m pc ls (.long x :: .int i :: .null :: rest)) rfl (rest := rest) rfl (by rw [hb]; exact hdg) t st, q⟩
theorem vx_fastoreN (hexec : p.tables.exec = Jvm.exec) (hb : c.code = cc) {x : UInt32} {i : Int32} (hdg : decode cc pc = .ok (.fastore, 1)) (k : vx_NoteN p l e R s m args below meth c H locs cells slots Q (F0 m pc ls rest)) : W p l e R s m args below meth c H locs cells slots Q (F0 m pc ls (.float x :: .int i :: .null :: rest)) := by
  intro T hT X
  obtain ⟨t, st, q⟩ := k T hT X
  exact ⟨t, X.fastoreNull hexec (g := F0 m pc ls (.float x :: .int i :: .null :: rest)) rfl (rest := rest) rfl (by rw [hb]; exact hdg) t st, q⟩
theorem vx_dastoreN (hexec : p.tables.exec = Jvm.exec) (hb : c.code = cc) {x : UInt64} {i : Int32} (hdg : decode cc pc = .ok (.dastore, 1)) (k : vx_NoteN p l e R s m args below meth c H locs cells slots Q (F0 m pc ls rest)) : W p l e R s m args below meth c H locs cells slots Q (F0 m pc ls (.double x :: .int i :: .null :: rest)) := by
  intro T hT X
  obtain ⟨t, st, q⟩ := k T hT X
  exact ⟨t, X.dastoreNull hexec (g := F0 m pc ls (.double x :: .int i :: .null :: rest)) rfl (rest := rest) rfl (by rw [hb]; exact hdg) t st, q⟩
theorem vx_bastoreN (hexec : p.tables.exec = Jvm.exec) (hb : c.code = cc) {x : Int32} {i : Int32} (hdg : decode cc pc = .ok (.bastore, 1)) (k : vx_NoteN p l e R s m args below meth c H locs cells slots Q (F0 m pc ls rest)) : W p l e R s m args below meth c H locs cells slots Q (F0 m pc ls (.int x :: .int i :: .null :: rest)) := by
  intro T hT X
  obtain ⟨t, st, q⟩ := k T hT X
  exact ⟨t, X.bastoreNull hexec (g := F0 m pc ls (.int x :: .int i :: .null :: rest)) rfl (rest := rest) rfl (by rw [hb]; exact hdg) t st, q⟩
theorem vx_castoreN (hexec : p.tables.exec = Jvm.exec) (hb : c.code = cc) {x : Int32} {i : Int32} (hdg : decode cc pc = .ok (.castore, 1)) (k : vx_NoteN p l e R s m args below meth c H locs cells slots Q (F0 m pc ls rest)) : W p l e R s m args below meth c H locs cells slots Q (F0 m pc ls (.int x :: .int i :: .null :: rest)) := by
  intro T hT X
  obtain ⟨t, st, q⟩ := k T hT X
  exact ⟨t, X.castoreNull hexec (g := F0 m pc ls (.int x :: .int i :: .null :: rest)) rfl (rest := rest) rfl (by rw [hb]; exact hdg) t st, q⟩
theorem vx_sastoreN (hexec : p.tables.exec = Jvm.exec) (hb : c.code = cc) {x : Int32} {i : Int32} (hdg : decode cc pc = .ok (.sastore, 1)) (k : vx_NoteN p l e R s m args below meth c H locs cells slots Q (F0 m pc ls rest)) : W p l e R s m args below meth c H locs cells slots Q (F0 m pc ls (.int x :: .int i :: .null :: rest)) := by
  intro T hT X
  obtain ⟨t, st, q⟩ := k T hT X
  exact ⟨t, X.sastoreNull hexec (g := F0 m pc ls (.int x :: .int i :: .null :: rest)) rfl (rest := rest) rfl (by rw [hb]; exact hdg) t st, q⟩
theorem vx_invokeN {own C : String} {index maxL : Nat} {y : MethodName} {bytes : ByteArray} {ret : Option FieldType} (hexec : p.tables.exec = Jvm.exec) (hb : c.code = cc) (hown : s.vm.findClass own = some m.cls) (hlink : (Cond.methodLink own index y).before args s = true) (hinst : (Cond.instanceMethod y).before args s = true) (hcode : (Cond.code y bytes maxL ret).before args s = true) (hsel : (Cond.selects C y y).before args s = true)
    (hx : y.cls ≠ "java/lang/invoke/MethodHandle" ∧ y.cls ≠ "java/lang/invoke/VarHandle") {As : List Value} (hlen : (parseMethodDescriptor y.desc).map (fun d => d.parameters.length) = some As.length) (hdg : decode cc pc = .ok (.invokevirtual index, 3))
    (k : vx_NoteN p l e R s m args below meth c H locs cells slots Q (F0 m pc ls rest)) {st0 : List Value} (hst : st0 = As.reverse ++ .null :: rest) : W p l e R s m args below meth c H locs cells slots Q (F0 m pc ls st0) := by
  intro T hT X
  obtain ⟨r0, r, hn, hrm, hstR, hsigR⟩ := va_Decl.of hinst hcode
  obtain ⟨c2, r2, m2, q1, q2, q3, q4, kP, hkP, hkPi⟩ := Cond.selects_spec hsel
  cases hn.symm.trans q3
  have hl9 : As.length = r.sig.parameters.length := by
    rw [hsigR] at hlen
    exact (Option.some.inj hlen).symm
  obtain ⟨vm', X1, st1⟩ := X.invokevirtualNull hexec hown hlink hn hrm hstR hkP hkPi hx (g := F0 m pc ls st0) rfl (argsL := As) (rest := rest) hl9 hst (by rw [hb]; exact hdg)
  obtain ⟨t, st, q⟩ := k (T.setVm vm') hT X1
  exact ⟨t, st1 t st, q⟩
theorem vx_newarrayZ {atype : ArrayType} (hexec : p.tables.exec = Jvm.exec) (hb : c.code = cc) {n : Int32} (h0 : n < 0) (hdg : decode cc pc = .ok (.newarray atype, 2)) (k : ∀ tx : String, tx = toString n → vx_Note p l e R s m args below meth c H locs cells slots Q (F0 m pc ls rest) "java/lang/NegativeArraySizeException" tx) : W p l e R s m args below meth c H locs cells slots Q (F0 m pc ls (.int n :: rest)) := by
  intro T hT X
  obtain ⟨t, st, q⟩ := k _ rfl T hT X
  exact ⟨t, X.newarrayNegative hexec (g := F0 m pc ls (.int n :: rest)) rfl h0 (rest := rest) rfl (by rw [hb]; exact hdg) t st, q⟩
end
end VXM
/-! ===== END ===== -/
/-! ===== BEGIN an exception as an object: made, kept, thrown later (no traces kept) ===== -/
section VXK
variable {p : Program} {l : Launch} {e : Env} {R : Room} {s : State} {m₀ : MethodId} {args : Array Value} {below : List Frame} {meth : Method} {c : Code} {W : State} {locs : List Loc} {cells slots : Nat}
set_option maxHeartbeats 1000000 in
theorem vx_ctorMadeS (X : Stand p l e R s m₀ args below meth c W locs cells slots) (hexec : p.tables.exec = Jvm.exec) (htr : e.platform.stackTraces = false) {own cls : String} {names : List String} {ic : Nat}
    (hown : s.vm.findClass own = some m₀.cls) (hcls : Bundle.fit cls = true) (hnames : ∀ n ∈ names, Bundle.fit n = true)
    (h : ∀ a ∈ Bundle.ownAtoms own ic cls names, a.before args s = true)
    (hlocs : ∀ x ∈ locs, ∀ cell, s.heap[x.base]? = some cell → cell.vm.isStatics = false)
    {a : Addr} {cX : ClassId} {kX : Class} (hfoundX : s.vm.findClass cls = some cX) (hkX : s.vm.classes[cX]? = some kX) (hcell : W.heap[a]? = some (freshCell cX kX)) (hnew : s.heap.size ≤ a)
    {msg : Value} (hmsg : msg.isRef = true)
    {g : JFrame} (hg : g.method = m₀) (hsize : g.locals.size = c.maxLocals) {rest : List Value} (hstack : g.stack = msg :: .ref a :: .ref a :: rest)
    (hd6 : decode c.code g.pc = .ok (.invokespecial ic, 3))
    (hRframes : names.length + 3 < R.frames) (hRlocals : 2 * g.monitorRoom + ((Value.ref a :: rest).map fun v => v.category).sum + (13 * (names.length + 1) + 42) ≤ R.locals) :
    ∃ (V : State) (ce : Cell) (L : List Loc), Stand p l e R s m₀ args below meth c (V.setCell a ce) (locs ++ L) cells slots ∧ (∀ y ∈ L, y.base = a) ∧ a < V.heap.size ∧ ce.cls = cX ∧ ce.vm = .none ∧
      ∀ target, Steps p.tables e below ((V.setCell a ce).setTop { g with stack := .ref a :: rest, pc := g.pc + 3 }) target → Steps p.tables e below (W.setTop g) target := by
  have howns : e.platform.frameOwnsMonitors = true := by rw [X.admits.platform]
  have hfin : e.platform.finalization = false := by rw [X.admits.platform]
  have hpl : e.platform.magicAccessors = ({} : Platform).magicAccessors := by rw [X.admits.platform]
  have a' : ∀ x, x ∈ Bundle.ownAtoms own ic cls names → x.holds args s none s [] = true := fun x hx => h x hx
  obtain ⟨T, Z0, L, -, Y⟩ := ThrowableC.of_atoms (args := args) howns hfin hpl (fun x hx => h x (by simp [Bundle.ownAtoms, hx]))
  obtain ⟨Z, M, LZ, LM, hnZ⟩ := Init0T.ofS_atoms (args := args) hpl L Y (fun x hx => h x (by simp [Bundle.ownAtoms, hx]))
  obtain ⟨P1, Ps, hlen, L1, hL, hP1m, hlink1, hlink⟩ := Bundle.chainS (args := args) hpl hnZ names cls hcls hnames (fun x hx => h x (by simp [Bundle.ownAtoms, hx]))
  have hfound : s.vm.findClass cls = some P1.m.cls := findClass_of_methodNamed hP1m
  cases Option.some.inj (hfoundX.symm.trans hfound)
  obtain ⟨c1, kX', hc1, hk, hord, -, -, hn6⟩ := Cond.instantiable_spec (a' (.instantiable cls 6) (by simp [Bundle.ownAtoms]))
  cases Option.some.inj (hc1.symm.trans hfound)
  cases Option.some.inj (hkX.symm.trans hk)
  have hsel0 : selectMethod e.platform s.vm P1.m.cls T.fill0 = .method T.fill0 := by
    obtain ⟨c2, r2, m2, q1, q2, q3, q4, -⟩ := Cond.selects_spec (a' (.selects cls Bundle.tFill0 Bundle.tFill0) (by simp [Bundle.ownAtoms]))
    cases Option.some.inj (q1.symm.trans hfound)
    cases Option.some.inj (q2.symm.trans (State.methodFound?_of_named Y.fill0 (by decide)))
    cases Option.some.inj (q3.symm.trans Y.fill0)
    rw [Launch.admits_selectMethod X.admits]; exact q4
  have hselF : selectMethod e.platform s.vm P1.m.cls T.fill = .method T.fill := by
    obtain ⟨c2, r2, m2, q1, q2, q3, q4, -⟩ := Cond.selects_spec (a' (.selects cls Bundle.tFill Bundle.tFill) (by simp [Bundle.ownAtoms]))
    cases Option.some.inj (q1.symm.trans hfound)
    cases Option.some.inj (q2.symm.trans (State.methodFound?_of_named Y.fill (by decide)))
    cases Option.some.inj (q3.symm.trans Y.fill)
    rw [Launch.admits_selectMethod X.admits]; exact q4
  obtain ⟨cellS0, hcS0, hiss⟩ := Y.statics
  obtain ⟨u0, hu0⟩ := Cond.staticRefV Y.unassigned L.unassignedStatic L.statics hcS0 hiss (a' (.isRef (.static Bundle.tN "UNASSIGNED_STACK" Bundle.steD)) (by simp [Bundle.ownAtoms]))
  obtain ⟨sen, hsen⟩ := Cond.staticRefV Y.sentinel L.sentinelStatic L.statics hcS0 hiss (a' (.isRef (.static Bundle.tN "SUPPRESSED_SENTINEL" Bundle.listD)) (by simp [Bundle.ownAtoms]))
  obtain ⟨ci198, i198, fB, hk198, hg198, ha198, hsB, -, hnB, htB, hffB⟩ := Cond.ownField (t := .object "java/lang/Object") Y.found L.cls (by decide +kernel) (a' (.fieldLink Bundle.tN 198 Bundle.tN "backtrace" "Ljava/lang/Object;") (by simp [Bundle.ownAtoms])) (a' (.lays Bundle.tN Bundle.tN "backtrace" "Ljava/lang/Object;") (by simp [Bundle.ownAtoms])) e.platform hpl
  obtain ⟨cellS, hcS', heS, -, hkeep⟩ := X.same.2.2.2.2.2 T.aS cellS0 hcS0
  have hcellS : W.heap[T.aS]? = some cellS := hcS'
  have hout' : ∀ i, (⟨T.aS, i⟩ : Loc) ∉ locs := fun i hmem => by
    have := hlocs _ hmem cellS0 hcS0
    rw [hiss] at this; cases this
  have hknownS : cellS.vm ≠ .unknown := by
    rw [heS]; intro hu
    rw [show cellS0.vm = .unknown from hu] at hiss
    cases hiss
  have hneS : T.aS ≠ a := Nat.ne_of_lt (Nat.lt_of_lt_of_le (Array.getElem?_eq_some_iff.mp hcS0).1 hnew)
  obtain ⟨iM, hffM⟩ := Y.msg
  obtain ⟨tyC, dC, hdC, hdnC⟩ := Cond.laysAt hfound hk Y.cause (a' (.lays cls Bundle.tN "cause" "Ljava/lang/Throwable;") (by simp [Bundle.ownAtoms]))
  obtain ⟨tyS, dS, hdS, hdnS⟩ := Cond.laysAt hfound hk Y.stack (a' (.lays cls Bundle.tN "stackTrace" Bundle.steD) (by simp [Bundle.ownAtoms]))
  obtain ⟨tyP, dP, hdP, hdnP⟩ := Cond.laysAt hfound hk Y.supp (a' (.lays cls Bundle.tN "suppressedExceptions" Bundle.listD) (by simp [Bundle.ownAtoms]))
  obtain ⟨tyM, dM, hdM, hdnM⟩ := Cond.laysAt hfound hk hffM (a' (.lays cls Bundle.tN "detailMessage" "Ljava/lang/String;") (by simp [Bundle.ownAtoms]))
  obtain ⟨tyB, dB, hdB, hdnB⟩ := Cond.laysAt hfound hk hffB (a' (.lays cls Bundle.tN "backtrace" "Ljava/lang/Object;") (by simp [Bundle.ownAtoms]))
  have bC := Cond.laysApart hdB hdC hdnB hdnC (by rw [hnB, Y.causeName]; decide)
  have bS := Cond.laysApart hdB hdS hdnB hdnS (by rw [hnB, Y.stackName]; decide)
  have bP := Cond.laysApart hdB hdP hdnB hdnP (by rw [hnB, Y.suppName]; decide)
  have hskip : SkipFacts T e.platform s (fun u => u) u0 ((preparedCellV T.toThrowableT (freshCell P1.m.cls kX) a u0 sen).withEntry W.cur) :=
    ⟨{ ci198 := ci198, i198 := i198, fBack := fB }, ⟨hk198, hg198, ha198, hsB⟩, by
      have := fresh_default (c := P1.m.cls) tyB
      rw [htB] at this
      simpa [preparedCellV, Cell.setSlot, Cell.withEntry, Array.getElem?_setIfInBounds, bC, bS, bP, bC.symm, bS.symm, bP.symm, defaultValue] using this, fun _ _ => rfl⟩
  obtain ⟨tm, methC, cdC, kC, vm₁, hnC, -, -, -, -, -, -, -, hW₁, st1⟩ := Steps.initColdS (tb := p.tables) (e := e) (below := below) (s := s) (U := W) X.here hexec X.warmed hpl hown (t := Bundle.initS cls) rfl rfl (Bundle.fit_spec hcls).2
    (a' (.methodLink own ic (Bundle.initS cls)) (by simp [Bundle.ownAtoms])) (h (.instanceMethod (Bundle.initS cls)) (by cases names <;> simp [Bundle.ownAtoms, Bundle.chainSAtoms, Bundle.passSAtoms])) (bytes := Bundle.six) (maxL := 2) (h (.code (Bundle.initS cls) Bundle.six 2 none) (by cases names <;> simp [Bundle.ownAtoms, Bundle.chainSAtoms, Bundle.passSAtoms]))
    (f := g) hg (a := a) (msg := msg) (rest := .ref a :: rest) hstack hd6
  cases Option.some.inj (hnC.symm.trans hP1m)
  have X₁ := X.noted hW₁
  obtain ⟨vm₂, X₂, st2⟩ := X₁.ctorMessageOffV hexec (g := { g with stack := .ref a :: rest }) hg hsize T L Z LZ M LM (P1 :: Ps)
    (fun P hP => by rcases List.mem_cons.mp hP with rfl | hP; exact L1; exact hL P hP) ⟨hlink1, hlink⟩ (u0 := u0) (sen := sen) (self := a) hmsg (cell := freshCell P1.m.cls kX) (cellS := cellS)
    hcell (fun _ => by simp) (by simp) rfl rfl hsel0 hselF hcellS hneS hknownS (by rw [hkeep _ (hout' _)]; exact hu0) (by rw [hkeep _ (hout' _)]; exact hsen)
    (Takes.of_laid hk hord tyC (by rw [Y.causeType]; rfl)) (Takes.of_laid hk hord tyS (by rw [Y.stackType]; exact fits_refV_array _ u0)) (Takes.of_laid hk hord tyP (by rw [Y.suppType]; exact fits_refV_object _ sen))
    (Takes.of_laid hk hord tyM (by rw [Y.msgType]; exact fits_refV_object _ ⟨msg, hmsg⟩)) Y.objLocals hskip htr [] hd6
    (by simp only [List.length_cons, hlen]; omega) (by simp only [List.length_cons, hlen]; exact hRlocals)
  have hlt : a < ((W.setVm vm₁).setVm vm₂).heap.size := (Array.getElem?_eq_some_iff.mp hcell).1
  refine ⟨(W.setVm vm₁).setVm vm₂, _, _, X₂, fun y hy => ?_, hlt, rfl, rfl, fun target hwalk => st1 _ (fun acts => ?_)⟩
  · simp only [List.mem_cons, List.not_mem_nil, or_false] at hy
    rcases hy with rfl | rfl | rfl | rfl | rfl <;> rfl
  · rw [doInvoke_state]
    exact st2 _ hwalk
set_option maxHeartbeats 1000000 in
theorem vx_ctorMade0 (X : Stand p l e R s m₀ args below meth c W locs cells slots) (hexec : p.tables.exec = Jvm.exec) (htr : e.platform.stackTraces = false) {own cls : String} {names : List String} {ic : Nat}
    (hown : s.vm.findClass own = some m₀.cls) (hcls : Bundle.fit cls = true) (hnames : ∀ n ∈ names, Bundle.fit n = true)
    (h : ∀ a ∈ Bundle.ownAtoms0 own ic cls names, a.before args s = true)
    (hlocs : ∀ x ∈ locs, ∀ cell, s.heap[x.base]? = some cell → cell.vm.isStatics = false)
    {a : Addr} {cX : ClassId} {kX : Class} (hfoundX : s.vm.findClass cls = some cX) (hkX : s.vm.classes[cX]? = some kX) (hcell : W.heap[a]? = some (freshCell cX kX)) (hnew : s.heap.size ≤ a)
    {g : JFrame} (hg : g.method = m₀) (hsize : g.locals.size = c.maxLocals) {rest : List Value} (hstack : g.stack = .ref a :: .ref a :: rest)
    (hd6 : decode c.code g.pc = .ok (.invokespecial ic, 3))
    (hRframes : names.length + 3 < R.frames) (hRlocals : 2 * g.monitorRoom + ((Value.ref a :: rest).map fun v => v.category).sum + (13 * (names.length + 1) + 41) ≤ R.locals) :
    ∃ (V : State) (ce : Cell) (L : List Loc), Stand p l e R s m₀ args below meth c (V.setCell a ce) (locs ++ L) cells slots ∧ (∀ y ∈ L, y.base = a) ∧ a < V.heap.size ∧ ce.cls = cX ∧ ce.vm = .none ∧
      ∀ target, Steps p.tables e below ((V.setCell a ce).setTop { g with stack := .ref a :: rest, pc := g.pc + 3 }) target → Steps p.tables e below (W.setTop g) target := by
  have howns : e.platform.frameOwnsMonitors = true := by rw [X.admits.platform]
  have hfin : e.platform.finalization = false := by rw [X.admits.platform]
  have hpl : e.platform.magicAccessors = ({} : Platform).magicAccessors := by rw [X.admits.platform]
  have a' : ∀ x, x ∈ Bundle.ownAtoms0 own ic cls names → x.holds args s none s [] = true := fun x hx => h x hx
  obtain ⟨T, Z, L, LZ, Y⟩ := ThrowableC.of_atoms (args := args) howns hfin hpl (fun x hx => h x (by simp [Bundle.ownAtoms0, hx]))
  obtain ⟨P1, Ps, hlen, L1, hL, hP1m, hlink1, hlink⟩ := Bundle.chain0 (args := args) hpl Y.init0 names cls hcls hnames (fun x hx => h x (by simp [Bundle.ownAtoms0, hx]))
  have hfound : s.vm.findClass cls = some P1.m.cls := findClass_of_methodNamed hP1m
  cases Option.some.inj (hfoundX.symm.trans hfound)
  obtain ⟨c1, kX', hc1, hk, hord, -, -, hn6⟩ := Cond.instantiable_spec (a' (.instantiable cls 6) (by simp [Bundle.ownAtoms0]))
  cases Option.some.inj (hc1.symm.trans hfound)
  cases Option.some.inj (hkX.symm.trans hk)
  have hsel0 : selectMethod e.platform s.vm P1.m.cls T.fill0 = .method T.fill0 := by
    obtain ⟨c2, r2, m2, q1, q2, q3, q4, -⟩ := Cond.selects_spec (a' (.selects cls Bundle.tFill0 Bundle.tFill0) (by simp [Bundle.ownAtoms0]))
    cases Option.some.inj (q1.symm.trans hfound)
    cases Option.some.inj (q2.symm.trans (State.methodFound?_of_named Y.fill0 (by decide)))
    cases Option.some.inj (q3.symm.trans Y.fill0)
    rw [Launch.admits_selectMethod X.admits]; exact q4
  have hselF : selectMethod e.platform s.vm P1.m.cls T.fill = .method T.fill := by
    obtain ⟨c2, r2, m2, q1, q2, q3, q4, -⟩ := Cond.selects_spec (a' (.selects cls Bundle.tFill Bundle.tFill) (by simp [Bundle.ownAtoms0]))
    cases Option.some.inj (q1.symm.trans hfound)
    cases Option.some.inj (q2.symm.trans (State.methodFound?_of_named Y.fill (by decide)))
    cases Option.some.inj (q3.symm.trans Y.fill)
    rw [Launch.admits_selectMethod X.admits]; exact q4
  obtain ⟨cellS0, hcS0, hiss⟩ := Y.statics
  obtain ⟨u0, hu0⟩ := Cond.staticRefV Y.unassigned L.unassignedStatic L.statics hcS0 hiss (a' (.isRef (.static Bundle.tN "UNASSIGNED_STACK" Bundle.steD)) (by simp [Bundle.ownAtoms0]))
  obtain ⟨sen, hsen⟩ := Cond.staticRefV Y.sentinel L.sentinelStatic L.statics hcS0 hiss (a' (.isRef (.static Bundle.tN "SUPPRESSED_SENTINEL" Bundle.listD)) (by simp [Bundle.ownAtoms0]))
  obtain ⟨ci198, i198, fB, hk198, hg198, ha198, hsB, -, hnB, htB, hffB⟩ := Cond.ownField (t := .object "java/lang/Object") Y.found L.cls (by decide +kernel) (a' (.fieldLink Bundle.tN 198 Bundle.tN "backtrace" "Ljava/lang/Object;") (by simp [Bundle.ownAtoms0])) (a' (.lays Bundle.tN Bundle.tN "backtrace" "Ljava/lang/Object;") (by simp [Bundle.ownAtoms0])) e.platform hpl
  obtain ⟨cellS, hcS', heS, -, hkeep⟩ := X.same.2.2.2.2.2 T.aS cellS0 hcS0
  have hcellS : W.heap[T.aS]? = some cellS := hcS'
  have hout' : ∀ i, (⟨T.aS, i⟩ : Loc) ∉ locs := fun i hmem => by
    have := hlocs _ hmem cellS0 hcS0
    rw [hiss] at this; cases this
  have hknownS : cellS.vm ≠ .unknown := by
    rw [heS]; intro hu
    rw [show cellS0.vm = .unknown from hu] at hiss
    cases hiss
  have hneS : T.aS ≠ a := Nat.ne_of_lt (Nat.lt_of_lt_of_le (Array.getElem?_eq_some_iff.mp hcS0).1 hnew)
  obtain ⟨iM, hffM⟩ := Y.msg
  obtain ⟨tyC, dC, hdC, hdnC⟩ := Cond.laysAt hfound hk Y.cause (a' (.lays cls Bundle.tN "cause" "Ljava/lang/Throwable;") (by simp [Bundle.ownAtoms0]))
  obtain ⟨tyS, dS, hdS, hdnS⟩ := Cond.laysAt hfound hk Y.stack (a' (.lays cls Bundle.tN "stackTrace" Bundle.steD) (by simp [Bundle.ownAtoms0]))
  obtain ⟨tyP, dP, hdP, hdnP⟩ := Cond.laysAt hfound hk Y.supp (a' (.lays cls Bundle.tN "suppressedExceptions" Bundle.listD) (by simp [Bundle.ownAtoms0]))
  obtain ⟨tyM, dM, hdM, hdnM⟩ := Cond.laysAt hfound hk hffM (a' (.lays cls Bundle.tN "detailMessage" "Ljava/lang/String;") (by simp [Bundle.ownAtoms0]))
  obtain ⟨tyB, dB, hdB, hdnB⟩ := Cond.laysAt hfound hk hffB (a' (.lays cls Bundle.tN "backtrace" "Ljava/lang/Object;") (by simp [Bundle.ownAtoms0]))
  have bC := Cond.laysApart hdB hdC hdnB hdnC (by rw [hnB, Y.causeName]; decide)
  have bS := Cond.laysApart hdB hdS hdnB hdnS (by rw [hnB, Y.stackName]; decide)
  have bP := Cond.laysApart hdB hdP hdnB hdnP (by rw [hnB, Y.suppName]; decide)
  have hskip : SkipFacts T e.platform s (fun u => u) u0 ((preparedCellV T.toThrowableT (freshCell P1.m.cls kX) a u0 sen).withEntry W.cur) :=
    ⟨{ ci198 := ci198, i198 := i198, fBack := fB }, ⟨hk198, hg198, ha198, hsB⟩, by
      have := fresh_default (c := P1.m.cls) tyB
      rw [htB] at this
      simpa [preparedCellV, Cell.setSlot, Cell.withEntry, Array.getElem?_setIfInBounds, bC, bS, bP, bC.symm, bS.symm, bP.symm, defaultValue] using this, fun _ _ => rfl⟩
  obtain ⟨tm, methC, cdC, kC, vm₁, hnC, -, -, -, -, -, -, -, hW₁, st1⟩ := Steps.initCold (tb := p.tables) (e := e) (below := below) (s := s) (U := W) X.here hexec X.warmed hpl hown (t := Bundle.init0 cls) rfl rfl (Bundle.fit_spec hcls).2
    (a' (.methodLink own ic (Bundle.init0 cls)) (by simp [Bundle.ownAtoms0])) (h (.instanceMethod (Bundle.init0 cls)) (by cases names <;> simp [Bundle.ownAtoms0, Bundle.chain0Atoms, Bundle.passAtoms])) (bytes := Bundle.five) (maxL := 1) (h (.code (Bundle.init0 cls) Bundle.five 1 none) (by cases names <;> simp [Bundle.ownAtoms0, Bundle.chain0Atoms, Bundle.passAtoms]))
    (f := g) hg (a := a) (rest := .ref a :: rest) hstack hd6
  cases Option.some.inj (hnC.symm.trans hP1m)
  have X₁ := X.noted hW₁
  obtain ⟨vm₂, X₂, st2⟩ := X₁.ctorPlainOffV hexec (g := { g with stack := .ref a :: rest }) hg hsize T L Z LZ (P1 :: Ps)
    (fun P hP => by rcases List.mem_cons.mp hP with rfl | hP; exact L1; exact hL P hP) ⟨hlink1, hlink⟩ (u0 := u0) (sen := sen) (self := a) (cell := freshCell P1.m.cls kX) (cellS := cellS)
    hcell (fun _ => by simp) (by simp) rfl rfl hsel0 hselF hcellS hneS hknownS (by rw [hkeep _ (hout' _)]; exact hu0) (by rw [hkeep _ (hout' _)]; exact hsen)
    (Takes.of_laid hk hord tyC (by rw [Y.causeType]; rfl)) (Takes.of_laid hk hord tyS (by rw [Y.stackType]; exact fits_refV_array _ u0)) (Takes.of_laid hk hord tyP (by rw [Y.suppType]; exact fits_refV_object _ sen)) Y.objLocals hskip htr [] hd6
    (by simp only [List.length_cons, hlen]; omega) (by simp only [List.length_cons, hlen]; exact hRlocals)
  have hlt : a < ((W.setVm vm₁).setVm vm₂).heap.size := (Array.getElem?_eq_some_iff.mp hcell).1
  refine ⟨(W.setVm vm₁).setVm vm₂, _, _, X₂, fun y hy => ?_, hlt, rfl, rfl, fun target hwalk => st1 _ (fun acts => ?_)⟩
  · simp only [List.mem_cons, List.not_mem_nil, or_false] at hy
    rcases hy with rfl | rfl | rfl | rfl <;> rfl
  · rw [doInvoke_state]
    exact st2 _ hwalk
end VXK
section VXK2
variable {p : Program} {l : Launch} {e : Env} {R : Room} {s : State} {m : MethodId} {args : Array Value} {below : List Frame} {meth : Method} {c : Code} {H : Heap} {locs : List Loc} {cells slots : Nat} {Q : State → Prop}
variable {ls : Array Slot} {rest : List Value} {D : va_G} {cl : List vw_C} {tys : List (ClassId × FieldType)} {ws : va_W}
/-- 'new E("text")' that isn't thrown at once: the object goes on the stack -/
theorem vx_makeS {cc : ByteArray} {pc : Nat} (hexec : p.tables.exec = Jvm.exec) (hb : c.code = cc) (hl : l.stackTraces = false) {own cls text : String} {names : List String} {ik is ic sa ci : Nat} {A : Nat → Prop} {T0 : u_T}
    (hown : s.vm.findClass own = some m.cls) (hcls : Bundle.fit cls = true) (hnames : ∀ n ∈ names, Bundle.fit n = true)
    (hk : (Cond.classLink own ik cls).before args s = true) (hini : (Cond.initialized cls).before args s = true) (hstr : vk_R own is text sa s) (hat : ∀ w ∈ vx_atS own ic cls names, w.before args s = true)
    (hgood : ∀ w ∈ Cond.classLink own ik cls :: Cond.initialized cls :: vx_atS own ic cls names, vx_ot w = true)
    (hU : vx_Zq Bundle.tN "UNASSIGNED_STACK" Bundle.steD A s s.heap) (hN : vx_Zq Bundle.tN "SUPPRESSED_SENTINEL" Bundle.listD A s s.heap) (hS : va_S A s.heap H locs) (hsize : ls.size = c.maxLocals)
    (d0 : decode cc pc = .ok (.new ik, 3)) (d3 : decode cc (pc + 3) = .ok (.dup, 1)) (d4 : decode cc (pc + 4) = .ok (.ldc is, 2)) (d6 : decode cc (pc + 6) = .ok (.invokespecial ic, 3))
    (hK : va_K D cl tys s) (hP : va_P D cl ws H) (hD : va_D A ws) (hA : ∀ q, s.heap.size ≤ q → A q) (hc : cl[ci]? = some (cls, T0, 0))
    (hRframes : names.length + 3 < R.frames) (hRlocals : (rest.map fun v => v.category).sum + (13 * (names.length + 1) + 43) ≤ R.locals) (hRcells : cells + 1 ≤ R.cells) (hRslots : slots + 6 ≤ R.slots)
    (kk : ∀ (q : Nat) (H1 : Heap), va_P D cl (ws ++ [(q, .inr (ci, []))]) H1 → va_D A (ws ++ [(q, .inr (ci, []))]) → va_S A s.heap H1 locs → W p l e R s m args below meth c H1 locs (cells + 1) (slots + 6) Q (F0 m (pc + 9) ls (.ref q :: rest))) :
    W p l e R s m args below meth c H locs cells slots Q (F0 m pc ls rest) := by
  intro T hT X
  subst hT
  have htr : e.platform.stackTraces = false := (show e.platform.stackTraces = l.stackTraces by rw [X.admits.platform]).trans hl
  have Y := vx_rebase X (R' := { frames := R.frames, locals := R.locals, cells := 1, slots := 6 }) (Nat.le_refl _) (Nat.le_refl _) hRcells hRslots
  obtain ⟨s', hA'⟩ : ∃ z, z = (T.setVm s.vm).setFrames (.invoking m args :: below) := ⟨_, rfl⟩
  rw [← hA'] at Y
  have hvm : s'.vm = s.vm := by rw [hA']; rfl
  have hhp : s'.heap = T.heap := by rw [hA']; rfl
  have hW0 : s.WarmedH s'.vm := by rw [hvm]; exact State.WarmedH.refl s
  have hat' : ∀ w ∈ vx_atS own ic cls names, w.before args s' = true := fun w hw => vx_ot_at hW0 hvm.symm (hgood w (List.mem_cons_of_mem _ (List.mem_cons_of_mem _ hw))) (hat w hw)
  have hk' : (Cond.classLink own ik cls).before args s' = true := vx_ot_at hW0 hvm.symm (hgood _ List.mem_cons_self) hk
  have hini' : (Cond.initialized cls).before args s' = true := vx_ot_at hW0 hvm.symm (hgood _ (List.mem_cons_of_mem _ List.mem_cons_self)) hini
  have hU' : vx_Zq Bundle.tN "UNASSIGNED_STACK" Bundle.steD A s' s'.heap := by rw [hhp]; exact vx_Zq.moved hW0.alike (hU.kept hS.2.1)
  have hN' : vx_Zq Bundle.tN "SUPPRESSED_SENTINEL" Bundle.listD A s' s'.heap := by rw [hhp]; exact vx_Zq.moved hW0.alike (hN.kept hS.2.1)
  have h : ∀ w ∈ Bundle.ownAtoms own ic cls names, w.before args s' = true := vx_own hat' (vx_isRefq hU'.1) (vx_isRefq hN'.1) hU'.2.word hN'.2.word
  have hown' : s'.vm.findClass own = some m.cls := by rw [hvm]; exact hown
  have hins : (Cond.instantiable cls 6).before args s' = true := h _ (by simp [Bundle.ownAtoms])
  obtain ⟨vm₁, cX, kX, hfX, hkX, -, -, X₁, st1⟩ := Y.newCold hexec (own := own) (C := cls) (index := ik) (n := 6) hown' hk' hins hini'
    (g := F0 m pc ls rest) rfl (by rw [hb]; exact d0) (Nat.le_refl _) (Nat.le_refl _)
  generalize hT1 : (T.setVm vm₁).pushCell { cls := cX, slots := kX.instanceTypes.map defaultValue, vm := .none } = T1 at X₁ st1
  have hcat : (Value.ref T.heap.size).category = 1 := rfl
  have hcellA : T1.heap[T.heap.size]? = some (freshCell cX kX) := by rw [← hT1]; exact State.heap_pushCell_size _ _
  have d3' : decode c.code (pc + 3) = .ok (.dup, 1) := by rw [hb]; exact d3
  have d4' : decode c.code (pc + 4) = .ok (.ldc is, 2) := by rw [hb]; exact d4
  have hstr' : vk_R own is text sa s' := vk_R.warm hW0 hstr
  obtain ⟨V, ce, L, Z, hL, hlt, hcl9, hvm9, st⟩ := vx_ctorMadeS X₁ hexec htr (own := own) (cls := cls) (names := names) (ic := ic) hown' hcls hnames h (fun x hx => nomatch hx) hfX hkX hcellA (by rw [hhp]; exact Nat.le_refl _) (msg := .ref sa) rfl
    (g := { method := m, pc := pc + 6, locals := ls, stack := .ref sa :: .ref T.heap.size :: .ref T.heap.size :: rest, locked := none }) rfl hsize (rest := rest) rfl
    (by rw [hb]; exact d6) hRframes (by simp only [List.map_cons, List.sum_cons, hcat]; omega)
  have Z0 := Stand.forget (locs := []) Z (fun y hy => by rw [hL y hy, hhp]; exact Nat.le_refl _)
  obtain ⟨f1, f2⟩ := vx_frame Z0.same
  rw [hhp] at f1 f2
  have hcid : ce.cls = D.1 ci := by
    rw [hcl9]
    have h1 := (hK.1 ci _ hc).2.1
    rw [hvm] at hfX
    exact Option.some.inj (hfX.symm.trans h1)
  have hh : (V.setCell T.heap.size ce).heap[T.heap.size]? = some ce := heapAt_setCell_self (s := V) ce hlt
  subst hA'
  have X5 := vx_back9 X Y Z0
  have X6 : Stand p l e R s m args below meth c (V.setCell T.heap.size ce) locs (cells + 1) (slots + 6) := { X5 with same := X5.same.mono (by omega) (by omega) }
  have hk9 : ∀ (k : Nat) (x : Nat × va_E), ws[k]? = some x → (V.setCell T.heap.size ce).heap[x.1]? = T.heap[x.1]? := fun k x hx => f2 x.1 ((hP k x hx).lt) (fun z hz => nomatch hz)
  obtain ⟨t, a1, b1⟩ := kk T.heap.size (V.setCell T.heap.size ce).heap ((hP.kept hk9).app (fun k x hx => by
      have hz : k < 1 := (List.getElem?_eq_some_iff.mp hx).1
      rw [show k = 0 by omega] at hx
      cases hx
      exact ⟨_, hc, ce, hh, hcid, hvm9, fun k hk => absurd hk (Nat.not_lt_zero k)⟩)) (hD.push hP rfl (hA _ hS.1)) ⟨Nat.le_trans hS.1 f1, fun q h1 h2 => (f2 q (Nat.lt_of_lt_of_le h1 hS.1) (fun z hz => nomatch hz)).trans (hS.2.1 q h1 h2), hS.2.2⟩ _ rfl X6
  refine ⟨t, st1 _ ?_, b1⟩
  show Steps p.tables e below (T1.setTop { method := m, pc := pc + 3, locals := ls, stack := .ref T.heap.size :: rest, locked := none }) _
  jvm_step X₁.here [X₁.here.top, hexec, d3', Value.category]
  exact X₁.ldcString hexec (own := own) (text := text) (index := is) (a := sa) hown' hstr'.1 hstr'.2
    (g := { method := m, pc := pc + 4, locals := ls, stack := .ref T.heap.size :: .ref T.heap.size :: rest, locked := none }) rfl d4' _ (st _ a1)
/-- 'new E()' that isn't thrown at once: the object goes on the stack -/
theorem vx_make0 {cc : ByteArray} {pc : Nat} (hexec : p.tables.exec = Jvm.exec) (hb : c.code = cc) (hl : l.stackTraces = false) {own cls : String} {names : List String} {ik ic ci : Nat} {A : Nat → Prop} {T0 : u_T}
    (hown : s.vm.findClass own = some m.cls) (hcls : Bundle.fit cls = true) (hnames : ∀ n ∈ names, Bundle.fit n = true)
    (hk : (Cond.classLink own ik cls).before args s = true) (hini : (Cond.initialized cls).before args s = true) (hat : ∀ w ∈ vx_at0 own ic cls names, w.before args s = true)
    (hgood : ∀ w ∈ Cond.classLink own ik cls :: Cond.initialized cls :: vx_at0 own ic cls names, vx_ot w = true)
    (hU : vx_Zq Bundle.tN "UNASSIGNED_STACK" Bundle.steD A s s.heap) (hN : vx_Zq Bundle.tN "SUPPRESSED_SENTINEL" Bundle.listD A s s.heap) (hS : va_S A s.heap H locs) (hsize : ls.size = c.maxLocals)
    (d0 : decode cc pc = .ok (.new ik, 3)) (d3 : decode cc (pc + 3) = .ok (.dup, 1)) (d4 : decode cc (pc + 4) = .ok (.invokespecial ic, 3))
    (hK : va_K D cl tys s) (hP : va_P D cl ws H) (hD : va_D A ws) (hA : ∀ q, s.heap.size ≤ q → A q) (hc : cl[ci]? = some (cls, T0, 0))
    (hRframes : names.length + 3 < R.frames) (hRlocals : (rest.map fun v => v.category).sum + (13 * (names.length + 1) + 42) ≤ R.locals) (hRcells : cells + 1 ≤ R.cells) (hRslots : slots + 6 ≤ R.slots)
    (kk : ∀ (q : Nat) (H1 : Heap), va_P D cl (ws ++ [(q, .inr (ci, []))]) H1 → va_D A (ws ++ [(q, .inr (ci, []))]) → va_S A s.heap H1 locs → W p l e R s m args below meth c H1 locs (cells + 1) (slots + 6) Q (F0 m (pc + 7) ls (.ref q :: rest))) :
    W p l e R s m args below meth c H locs cells slots Q (F0 m pc ls rest) := by
  intro T hT X
  subst hT
  have htr : e.platform.stackTraces = false := (show e.platform.stackTraces = l.stackTraces by rw [X.admits.platform]).trans hl
  have Y := vx_rebase X (R' := { frames := R.frames, locals := R.locals, cells := 1, slots := 6 }) (Nat.le_refl _) (Nat.le_refl _) hRcells hRslots
  obtain ⟨s', hA'⟩ : ∃ z, z = (T.setVm s.vm).setFrames (.invoking m args :: below) := ⟨_, rfl⟩
  rw [← hA'] at Y
  have hvm : s'.vm = s.vm := by rw [hA']; rfl
  have hhp : s'.heap = T.heap := by rw [hA']; rfl
  have hW0 : s.WarmedH s'.vm := by rw [hvm]; exact State.WarmedH.refl s
  have hat' : ∀ w ∈ vx_at0 own ic cls names, w.before args s' = true := fun w hw => vx_ot_at hW0 hvm.symm (hgood w (List.mem_cons_of_mem _ (List.mem_cons_of_mem _ hw))) (hat w hw)
  have hk' : (Cond.classLink own ik cls).before args s' = true := vx_ot_at hW0 hvm.symm (hgood _ List.mem_cons_self) hk
  have hini' : (Cond.initialized cls).before args s' = true := vx_ot_at hW0 hvm.symm (hgood _ (List.mem_cons_of_mem _ List.mem_cons_self)) hini
  have hU' : vx_Zq Bundle.tN "UNASSIGNED_STACK" Bundle.steD A s' s'.heap := by rw [hhp]; exact vx_Zq.moved hW0.alike (hU.kept hS.2.1)
  have hN' : vx_Zq Bundle.tN "SUPPRESSED_SENTINEL" Bundle.listD A s' s'.heap := by rw [hhp]; exact vx_Zq.moved hW0.alike (hN.kept hS.2.1)
  have h : ∀ w ∈ Bundle.ownAtoms0 own ic cls names, w.before args s' = true := vx_own hat' (vx_isRefq hU'.1) (vx_isRefq hN'.1) hU'.2.word hN'.2.word
  have hown' : s'.vm.findClass own = some m.cls := by rw [hvm]; exact hown
  have hins : (Cond.instantiable cls 6).before args s' = true := h _ (by simp [Bundle.ownAtoms0])
  obtain ⟨vm₁, cX, kX, hfX, hkX, -, -, X₁, st1⟩ := Y.newCold hexec (own := own) (C := cls) (index := ik) (n := 6) hown' hk' hins hini'
    (g := F0 m pc ls rest) rfl (by rw [hb]; exact d0) (Nat.le_refl _) (Nat.le_refl _)
  generalize hT1 : (T.setVm vm₁).pushCell { cls := cX, slots := kX.instanceTypes.map defaultValue, vm := .none } = T1 at X₁ st1
  have hcat : (Value.ref T.heap.size).category = 1 := rfl
  have hcellA : T1.heap[T.heap.size]? = some (freshCell cX kX) := by rw [← hT1]; exact State.heap_pushCell_size _ _
  have d3' : decode c.code (pc + 3) = .ok (.dup, 1) := by rw [hb]; exact d3
  obtain ⟨V, ce, L, Z, hL, hlt, hcl9, hvm9, st⟩ := vx_ctorMade0 X₁ hexec htr (own := own) (cls := cls) (names := names) (ic := ic) hown' hcls hnames h (fun x hx => nomatch hx) hfX hkX hcellA (by rw [hhp]; exact Nat.le_refl _)
    (g := { method := m, pc := pc + 4, locals := ls, stack := .ref T.heap.size :: .ref T.heap.size :: rest, locked := none }) rfl hsize (rest := rest) rfl
    (by rw [hb]; exact d4) hRframes (by simp only [List.map_cons, List.sum_cons, hcat]; omega)
  have Z0 := Stand.forget (locs := []) Z (fun y hy => by rw [hL y hy, hhp]; exact Nat.le_refl _)
  obtain ⟨f1, f2⟩ := vx_frame Z0.same
  rw [hhp] at f1 f2
  have hcid : ce.cls = D.1 ci := by
    rw [hcl9]
    have h1 := (hK.1 ci _ hc).2.1
    rw [hvm] at hfX
    exact Option.some.inj (hfX.symm.trans h1)
  have hh : (V.setCell T.heap.size ce).heap[T.heap.size]? = some ce := heapAt_setCell_self (s := V) ce hlt
  subst hA'
  have X5 := vx_back9 X Y Z0
  have X6 : Stand p l e R s m args below meth c (V.setCell T.heap.size ce) locs (cells + 1) (slots + 6) := { X5 with same := X5.same.mono (by omega) (by omega) }
  have hk9 : ∀ (k : Nat) (x : Nat × va_E), ws[k]? = some x → (V.setCell T.heap.size ce).heap[x.1]? = T.heap[x.1]? := fun k x hx => f2 x.1 ((hP k x hx).lt) (fun z hz => nomatch hz)
  obtain ⟨t, a1, b1⟩ := kk T.heap.size (V.setCell T.heap.size ce).heap ((hP.kept hk9).app (fun k x hx => by
      have hz : k < 1 := (List.getElem?_eq_some_iff.mp hx).1
      rw [show k = 0 by omega] at hx
      cases hx
      exact ⟨_, hc, ce, hh, hcid, hvm9, fun k hk => absurd hk (Nat.not_lt_zero k)⟩)) (hD.push hP rfl (hA _ hS.1)) ⟨Nat.le_trans hS.1 f1, fun q h1 h2 => (f2 q (Nat.lt_of_lt_of_le h1 hS.1) (fun z hz => nomatch hz)).trans (hS.2.1 q h1 h2), hS.2.2⟩ _ rfl X6
  refine ⟨t, st1 _ ?_, b1⟩
  show Steps p.tables e below (T1.setTop { method := m, pc := pc + 3, locals := ls, stack := .ref T.heap.size :: rest, locked := none }) _
  jvm_step X₁.here [X₁.here.top, hexec, d3', Value.category]
  exact st _ a1
/-- 'throw x' of an object that was made before -/
theorem vx_athrow {cc : ByteArray} {pc : Nat} (hexec : p.tables.exec = Jvm.exec) (hb : c.code = cc) {q : Addr} (hdg : decode cc pc = .ok (.athrow, 1)) (k : vx_W p l e R s m args below meth c H locs cells slots Q (F0 m pc ls rest) q) : W p l e R s m args below meth c H locs cells slots Q (F0 m pc ls (.ref q :: rest)) := by
  intro T hT X
  obtain ⟨t, st, hq⟩ := k T hT X
  refine ⟨t, ?_, hq⟩
  have hdg' : decode c.code pc = .ok (.athrow, 1) := by rw [hb]; exact hdg
  jvm_step X.here [X.here.top, hexec, hdg', athrow.wp_sem]
  exact st
end VXK2
/-! ===== END ===== -/
/-! ===== BEGIN a constructor that throws (launches without stack traces) ===== -/
section VXIA
variable {p : Program} {l : Launch} {e : Env} {R : Room} {s : State} {m : MethodId} {args : Array Value} {below : List Frame} {meth : Method} {c : Code} {T : State} {locs : List Loc} {cells slots : Nat}
theorem vx_callI (X : Stand p l e R s m args below meth c T locs cells slots) (hexec : p.tables.exec = Jvm.exec) {own : String} {index : Nat} {y : MethodName} {bytes : ByteArray} {maxL : Nat}
    (hown : s.vm.findClass own = some m.cls) (hy1 : y.name = "<init>") (hlink : (Cond.methodLink own index y).before args s = true) (hinst : (Cond.instanceMethod y).before args s = true)
    (hcode : (Cond.code y bytes maxL none).before args s = true) (hy : y.cls ≠ "java/lang/invoke/MethodHandle" ∧ y.cls ≠ "java/lang/invoke/VarHandle")
    {W9 : Nat} {Pre : Pt → Array Value → Prop} {Post : Pt → Array Value → Option Value → Pt → Prop} {PostX : Pt → Array Value → Addr → Pt → Prop} (hK : vx_Back l R p e below s args y 3 W9 Pre Post PostX)
    {g : JFrame} (hg : g.method = m) (hsize : g.locals.size = c.maxLocals) {a : Addr} {argsL rest : List Value} (hlen : ∀ sig, parseMethodDescriptor y.desc = some sig → argsL.length = sig.parameters.length)
    (hstack : g.stack = argsL.reverse ++ .ref a :: rest) (hW : 2 * g.monitorRoom + (rest.map fun v => v.category).sum ≤ W9) (hdg : decode c.code g.pc = .ok (.invokespecial index, 3))
    (hpre : ∀ vm₁, s.WarmedH vm₁ → Pre ⟨T.setVm vm₁, locs, cells, slots⟩ (Value.ref a :: argsL).toArray) :
    (∃ (v : Option Value) (vm₁ : Vm) (B : Pt), s.WarmedH vm₁ ∧ Stand p l e R s m args below meth c B.U B.locs B.cells B.slots ∧ Post ⟨T.setVm vm₁, locs, cells, slots⟩ (Value.ref a :: argsL).toArray v B ∧
      ∀ target, Steps p.tables e below (B.U.setTop { g with pc := g.pc + 3, stack := v.toList ++ rest }) target → Steps p.tables e below (T.setTop g) target) ∨
    (∃ (q : Addr) (vm₁ : Vm) (B : Pt), s.WarmedH vm₁ ∧ Stand p l e R s m args below meth c B.U B.locs B.cells B.slots ∧ PostX ⟨T.setVm vm₁, locs, cells, slots⟩ (Value.ref a :: argsL).toArray q B ∧
      Steps p.tables e below (T.setTop g) ((B.U.setTop { g with stack := rest }).pushFrame (.throwing q))) := by
  subst hg
  have hpl : e.platform.magicAccessors = ({} : Platform).magicAccessors := by rw [X.admits.platform]
  obtain ⟨mk, methM, cM, kP, vm₁, hnamed, hmethM, hcodeM, -, hlocalsM, -, hkP, -, hW₁, hstep₁⟩ := Steps.initColdArgs (e := e) X.here hexec X.warmed hpl hown hy1 hy hlink hinst hcode (f := g) rfl hlen hstack hdg
  have X₁ := X.noted hW₁
  rcases hK g.method meth c ⟨T.setVm vm₁, locs, cells, slots⟩ { g with stack := rest } (.invokespecial index) mk (Value.ref a :: argsL).toArray X₁ rfl hsize hdg hW (X₁.named hnamed) (hpre vm₁ X₁.warmed) with ⟨v, B, X', hpost, hsteps⟩ | ⟨q, B, X', hpost, hsteps⟩
  · exact Or.inl ⟨v, vm₁, B, X₁.warmed, X', hpost, fun target h => hstep₁ _ fun acts => by rw [doInvoke_state]; exact hsteps.trans h⟩
  · exact Or.inr ⟨q, vm₁, B, X₁.warmed, X', hpost, hstep₁ _ fun acts => by rw [doInvoke_state]; exact hsteps⟩
end VXIA
section VXIB
variable {p : Program} {l : Launch} {e : Env} {R : Room} {s : State} {m : MethodId} {args : Array Value} {below : List Frame} {meth : Method} {c : Code} {H : Heap} {locs : List Loc} {cells slots : Nat}
variable {y : MethodName} {bytes cc : ByteArray} {maxL nL mc ms n index : Nat} {ret : Option FieldType} {ws : List Cond} {rm : Room} {Pc : Array Value → State → Prop} {Qc : Array Value → State → Outcome → State → Prop} {XC : String → State → State → Prop} {free : Addr → Prop} {Ts : List Cond} {own C : String} {b : Addr} {As rest : List Value} {g : JFrame}
theorem vx_runI (S : CallFix p m c cc nL s args Ts own) (hM : vx_Met l y ws rm Pc Qc XC mc ms free) (cw : CallB R s args own index y bytes maxL none ws rm mc ms n ∧ y.name = "<init>" ∧ (Cond.instanceMethod y).before args s = true) (hp : PreS s H Pc (.ref b :: As))
    (hg : g.method = m) (hn : As.length = n) (hsize : g.locals.size = nL) (hstack : g.stack = As.reverse ++ .ref b :: rest) (hW : 2 * g.monitorRoom + (rest.map fun v => v.category).sum ≤ 8) (hdg : decode cc g.pc = .ok (.invokespecial index, 3)) (hf : cells + mc ≤ R.cells ∧ slots + ms ≤ R.slots) :
    vx_Run p l e R s m args below meth c H locs cells slots mc ms g rest (Qc (Value.ref b :: As).toArray) XC free := by
  have hK : vx_Back l R p e below s args y 3 8 (PreOf R mc ms Pc) (PostOf Qc mc ms free) (vx_Post XC mc ms free) := vx_callBack cw.1 hM hp.1
  obtain ⟨⟨-, -, -, -, -, -, hcode, -, hy, hlen, hl⟩, hy1, hin⟩ := cw
  obtain ⟨hx, hb, hml, ho, -⟩ := S
  have hPc := hp.2
  intro T hT X
  rcases vx_callI X hx (bytes := bytes) (maxL := maxL) ho hy1 hl hin hcode hy hK hg (hsize.trans hml.symm) (a := b) (argsL := As) (rest := rest) (fun sig h => hn.trans (hlen sig h)) hstack hW (by rw [hb]; exact hdg)
    (fun vm₁ hW₁ => ⟨hf.1, hf.2, hPc (T.setVm vm₁) hT hW₁⟩) with ⟨v, vm₁, ⟨U', l2, c2, s2⟩, hW₁, X', ⟨g', mk, t, L, e1, e2, hq, h1, hL, h2, h3⟩, st⟩ | ⟨q, vm₁, ⟨U', l2, c2, s2⟩, hW₁, X', ⟨g', mk, t, L, E, ce, e1, e2, hq, hce, hcv, hcl, h1, hL, h2, h3⟩, st⟩
  · dsimp only [Pt.U, Pt.locs, Pt.cells, Pt.slots] at X' e1 e2 h1 h2 h3 st
    subst h1; subst h2; subst h3
    exact Or.inl ⟨v, (T.setVm vm₁).calling g' mk (Value.ref b :: As).toArray, t, U', L, hT, X', hL, e1, e2, hq, st⟩
  · dsimp only [Pt.U, Pt.locs, Pt.cells, Pt.slots] at X' e1 e2 h1 h2 h3 st hcl
    subst h1; subst h2; subst h3
    exact Or.inr ⟨q, (T.setVm vm₁).calling g' mk (Value.ref b :: As).toArray, t, U', L, E, ce, hT, X', hL, e1, e2, hq, hce, hcv, vx_cls hW₁ hcl, st⟩
end VXIB
/-! ===== END ===== -/
/-! ===== BEGIN a private constructor of a nest mate that throws ===== -/
section VXIC
variable {p : Program} {l : Launch} {e : Env} {R : Room} {s : State} {m : MethodId} {args : Array Value} {below : List Frame} {meth : Method} {c : Code} {T : State} {locs : List Loc} {cells slots : Nat}
theorem vx_callIN (X : Stand p l e R s m args below meth c T locs cells slots) (hexec : p.tables.exec = Jvm.exec) {own : String} {index : Nat} {host : String} {y : MethodName} {bytes : ByteArray} {maxL : Nat}
    (hown : s.vm.findClass own = some m.cls) (hy1 : y.name = "<init>") (hlink : (Cond.methodLinkNest own index y host).before args s = true) (hinst : (Cond.instanceMethod y).before args s = true)
    (hcode : (Cond.code y bytes maxL none).before args s = true) (hy : y.cls ≠ "java/lang/invoke/MethodHandle" ∧ y.cls ≠ "java/lang/invoke/VarHandle")
    {W9 : Nat} {Pre : Pt → Array Value → Prop} {Post : Pt → Array Value → Option Value → Pt → Prop} {PostX : Pt → Array Value → Addr → Pt → Prop} (hK : vx_Back l R p e below s args y 3 W9 Pre Post PostX)
    {g : JFrame} (hg : g.method = m) (hsize : g.locals.size = c.maxLocals) {a : Addr} {argsL rest : List Value} (hlen : ∀ sig, parseMethodDescriptor y.desc = some sig → argsL.length = sig.parameters.length)
    (hstack : g.stack = argsL.reverse ++ .ref a :: rest) (hW : 2 * g.monitorRoom + (rest.map fun v => v.category).sum ≤ W9) (hdg : decode c.code g.pc = .ok (.invokespecial index, 3))
    (hpre : ∀ vm₁, s.WarmedH vm₁ → Pre ⟨T.setVm vm₁, locs, cells, slots⟩ (Value.ref a :: argsL).toArray) :
    (∃ (v : Option Value) (vm₁ : Vm) (B : Pt), s.WarmedH vm₁ ∧ Stand p l e R s m args below meth c B.U B.locs B.cells B.slots ∧ Post ⟨T.setVm vm₁, locs, cells, slots⟩ (Value.ref a :: argsL).toArray v B ∧
      ∀ target, Steps p.tables e below (B.U.setTop { g with pc := g.pc + 3, stack := v.toList ++ rest }) target → Steps p.tables e below (T.setTop g) target) ∨
    (∃ (q : Addr) (vm₁ : Vm) (B : Pt), s.WarmedH vm₁ ∧ Stand p l e R s m args below meth c B.U B.locs B.cells B.slots ∧ PostX ⟨T.setVm vm₁, locs, cells, slots⟩ (Value.ref a :: argsL).toArray q B ∧
      Steps p.tables e below (T.setTop g) ((B.U.setTop { g with stack := rest }).pushFrame (.throwing q))) := by
  subst hg
  have hpl : e.platform.magicAccessors = ({} : Platform).magicAccessors := by rw [X.admits.platform]
  obtain ⟨mk, methM, cM, kP, vm₁, hnamed, hmethM, hcodeM, -, hlocalsM, -, hkP, -, hW₁, hstep₁⟩ := Steps.initColdArgsNest (e := e) X.here hexec X.warmed hpl hown hy1 hy hlink hinst hcode (f := g) rfl hlen hstack hdg
  have X₁ := X.noted hW₁
  rcases hK g.method meth c ⟨T.setVm vm₁, locs, cells, slots⟩ { g with stack := rest } (.invokespecial index) mk (Value.ref a :: argsL).toArray X₁ rfl hsize hdg hW (X₁.named hnamed) (hpre vm₁ X₁.warmed) with ⟨v, B, X', hpost, hsteps⟩ | ⟨q, B, X', hpost, hsteps⟩
  · exact Or.inl ⟨v, vm₁, B, X₁.warmed, X', hpost, fun target h => hstep₁ _ fun acts => by rw [doInvoke_state]; exact hsteps.trans h⟩
  · exact Or.inr ⟨q, vm₁, B, X₁.warmed, X', hpost, hstep₁ _ fun acts => by rw [doInvoke_state]; exact hsteps⟩
end VXIC
section VXID
variable {p : Program} {l : Launch} {e : Env} {R : Room} {s : State} {m : MethodId} {args : Array Value} {below : List Frame} {meth : Method} {c : Code} {H : Heap} {locs : List Loc} {cells slots : Nat}
theorem vx_runIN {y : MethodName} {bytes cc : ByteArray} {maxL nL mc ms n index : Nat} {ws : List Cond} {rm : Room} {Pc : Array Value → State → Prop} {Qc : Array Value → State → Outcome → State → Prop} {XC : String → State → State → Prop} {free : Addr → Prop} {Ts : List Cond} {own host : String} {b : Addr} {As rest : List Value} {g : JFrame}
    (S : CallFix p m c cc nL s args Ts own) (hM : vx_Met l y ws rm Pc Qc XC mc ms free) (cw : va_CN R s args own index y host bytes maxL none ws rm mc ms n ∧ y.name = "<init>" ∧ (Cond.instanceMethod y).before args s = true) (hp : PreS s H Pc (.ref b :: As))
    (hg : g.method = m) (hn : As.length = n) (hsize : g.locals.size = nL) (hstack : g.stack = As.reverse ++ .ref b :: rest) (hW : 2 * g.monitorRoom + (rest.map fun v => v.category).sum ≤ 8) (hdg : decode cc g.pc = .ok (.invokespecial index, 3)) (hf : cells + mc ≤ R.cells ∧ slots + ms ≤ R.slots) :
    vx_Run p l e R s m args below meth c H locs cells slots mc ms g rest (Qc (Value.ref b :: As).toArray) XC free := by
  obtain ⟨⟨⟨hrc, hrs, hfr, hlo, hws, hcw⟩, hcode, hini, hy, hlen, hl⟩, hx1, hx2⟩ := cw
  have hK : vx_Back l R p e below s args y 3 8 (PreOf R mc ms Pc) (PostOf Qc mc ms free) (vx_Post XC mc ms free) := vx_back (bytes := bytes) (maxL := maxL) (ret := none) hM hp.1 hrc hrs hfr hlo hws hcw (fun a' U hW => word_at hW (Or.inl (by first | rfl | simp [Cond.onTables, Cond.keeps, Cond.steady])) hini)
  obtain ⟨hx, hb, hml, ho, -⟩ := S
  have hPc := hp.2
  intro T hT X
  rcases vx_callIN X hx (bytes := bytes) (maxL := maxL) ho hx1 hl hx2 hcode hy hK hg (hsize.trans hml.symm) (a := b) (argsL := As) (rest := rest) (fun sig h => hn.trans (hlen sig h)) hstack hW (by rw [hb]; exact hdg)
    (fun vm₁ hW₁ => ⟨hf.1, hf.2, hPc (T.setVm vm₁) hT hW₁⟩) with ⟨v, vm₁, ⟨U', l2, c2, s2⟩, hW₁, X', ⟨g', mk, t, L, e1, e2, hq, h1, hL, h2, h3⟩, st⟩ | ⟨q, vm₁, ⟨U', l2, c2, s2⟩, hW₁, X', ⟨g', mk, t, L, E, ce, e1, e2, hq, hce, hcv, hcl, h1, hL, h2, h3⟩, st⟩
  · dsimp only [Pt.U, Pt.locs, Pt.cells, Pt.slots] at X' e1 e2 h1 h2 h3 st
    subst h1; subst h2; subst h3
    exact Or.inl ⟨v, (T.setVm vm₁).calling g' mk (Value.ref b :: As).toArray, t, U', L, hT, X', hL, e1, e2, hq, st⟩
  · dsimp only [Pt.U, Pt.locs, Pt.cells, Pt.slots] at X' e1 e2 h1 h2 h3 st hcl
    subst h1; subst h2; subst h3
    exact Or.inr ⟨q, (T.setVm vm₁).calling g' mk (Value.ref b :: As).toArray, t, U', L, E, ce, hT, X', hL, e1, e2, hq, hce, hcv, vx_cls hW₁ hcl, st⟩
end VXID
/-! ===== END ===== -/
/-! ===== BEGIN a method of a class above, found by the receiver, that may throw (follows va_callVU, va_runU of this kit) ===== -/
section
variable {p : Program} {l : Launch} {e : Env} {R : Room} {s : State} {m : MethodId} {args : Array Value} {below : List Frame} {meth : Method} {c : Code} {H : Heap} {locs : List Loc} {cells slots : Nat}
theorem vx_callVU {T : State} {locs : List Loc} {cells slots : Nat} (X : Stand p l e R s m args below meth c T locs cells slots) (hexec : p.tables.exec = Jvm.exec) {own C owner : String} {index : Nat} {x y : MethodName} {bytes : ByteArray} {maxL : Nat} {ret : Option FieldType}
    (hown : s.vm.findClass own = some m.cls) (hlink : (Cond.methodLink own index x).before args s = true) (hsame : (Cond.sameMethod x.cls owner x.name x.desc).before args s = true)
    (hd0 : va_Decl s ⟨owner, x.name, x.desc⟩) (howner : owner ≠ "java/lang/invoke/MethodHandle" ∧ owner ≠ "java/lang/invoke/VarHandle")
    (hsel : (Cond.selects C x y).before args s = true) (hinst : (Cond.instanceMethod y).before args s = true) (hcode : (Cond.code y bytes maxL ret).before args s = true)
    {W : Nat} {Pre : Pt → Array Value → Prop} {Post : Pt → Array Value → Option Value → Pt → Prop} {PostX : Pt → Array Value → Addr → Pt → Prop} (hK : vx_Back l R p e below s args y 3 W Pre Post PostX)
    {b : Addr} {cellB : Cell} (hcell : T.heap[b]? = some cellB) (hobj : cellB.vm.isStatics = false) (hcls : s.vm.findClass C = some cellB.cls)
    {g : JFrame} (hg : g.method = m) (hsize : g.locals.size = c.maxLocals) {argsL rest : List Value} (hlen : ∀ sig, parseMethodDescriptor x.desc = some sig → argsL.length = sig.parameters.length)
    (hstack : g.stack = argsL.reverse ++ .ref b :: rest) (hW : 2 * g.monitorRoom + (rest.map fun v => v.category).sum ≤ W) (hdg : decode c.code g.pc = .ok (.invokevirtual index, 3))
    (hpre : ∀ vm₁, s.WarmedH vm₁ → Pre ⟨T.setVm vm₁, locs, cells, slots⟩ (Value.ref b :: argsL).toArray) :
    (∃ (v : Option Value) (vm₁ : Vm) (B : Pt), s.WarmedH vm₁ ∧ Stand p l e R s m args below meth c B.U B.locs B.cells B.slots ∧ Post ⟨T.setVm vm₁, locs, cells, slots⟩ (Value.ref b :: argsL).toArray v B ∧
      ∀ target, Steps p.tables e below (B.U.setTop { g with pc := g.pc + 3, stack := v.toList ++ rest }) target → Steps p.tables e below (T.setTop g) target) ∨
    (∃ (q : Addr) (vm₁ : Vm) (B : Pt), s.WarmedH vm₁ ∧ Stand p l e R s m args below meth c B.U B.locs B.cells B.slots ∧ PostX ⟨T.setVm vm₁, locs, cells, slots⟩ (Value.ref b :: argsL).toArray q B ∧
      Steps p.tables e below (T.setTop g) ((B.U.setTop { g with stack := rest }).pushFrame (.throwing q))) := by
  obtain ⟨r0, r, hn, hrm, hstR, hsigR⟩ := hd0
  obtain ⟨cn, ck, r1, hcn, hck, hni, hf, hn1⟩ := Cond.sameMethod_found hsame
  cases hn.symm.trans hn1
  obtain ⟨mk, methM, hnamed, hmethM, -, habM⟩ := Cond.instanceMethod_spec hinst
  obtain ⟨c2, r2, m2, q1, q2, q3, q4, kP, hkP, hkPi⟩ := Cond.selects_spec hsel
  cases hcls.symm.trans q1
  cases hf.symm.trans q2
  cases hnamed.symm.trans q3
  have hselP : selectMethod e.platform s.vm cellB.cls r0 = .method mk := by rw [Launch.admits_selectMethod X.admits]; exact q4
  obtain ⟨vm₁, X₁, hstep₁⟩ := X.invokevirtualUp hexec hown hlink hsame howner hn hrm hstR (a := b) (cell := cellB) hcell
    (fun z h => by rw [h] at hobj; cases hobj) hselP hmethM habM hkP hkPi (g := g) hg (argsL := argsL) (rest := rest) (hlen _ hsigR) hstack hdg
  rcases hK m meth c ⟨T.setVm vm₁, locs, cells, slots⟩ { g with stack := rest } (.invokevirtual index) mk (Value.ref b :: argsL).toArray X₁ hg hsize hdg hW (X₁.named hnamed) (hpre vm₁ X₁.warmed) with ⟨v, B, X', hpost, hsteps⟩ | ⟨q, B, X', hpost, hsteps⟩
  · exact Or.inl ⟨v, vm₁, B, X₁.warmed, X', hpost, fun target h => hstep₁ _ fun acts => by rw [doInvoke_state]; exact hsteps.trans h⟩
  · exact Or.inr ⟨q, vm₁, B, X₁.warmed, X', hpost, hstep₁ _ fun acts => by rw [doInvoke_state]; exact hsteps⟩
theorem vx_runU {x y : MethodName} {bytes cc : ByteArray} {maxL nL mc ms n index : Nat} {ret : Option FieldType} {ws : List Cond} {rm : Room} {Pc : Array Value → State → Prop} {Qc : Array Value → State → Outcome → State → Prop} {XC : String → State → State → Prop} {free : Addr → Prop} {Ts : List Cond} {own C owner : String} {b : Addr} {As rest : List Value} {g : JFrame}
    (S : CallFix p m c cc nL s args Ts own) (hM : vx_Met l y ws rm Pc Qc XC mc ms free) (cw : va_CU R s args own C owner index x y bytes maxL ret ws rm mc ms n) (hp : PreV s H C b Pc As)
    (hg : g.method = m) (hn : As.length = n) (hsize : g.locals.size = nL) (hstack : g.stack = As.reverse ++ .ref b :: rest) (hW : 2 * g.monitorRoom + (rest.map fun v => v.category).sum ≤ 8) (hdg : decode cc g.pc = .ok (.invokevirtual index, 3)) (hf : cells + mc ≤ R.cells ∧ slots + ms ≤ R.slots) :
    vx_Run p l e R s m args below meth c H locs cells slots mc ms g rest (Qc (Value.ref b :: As).toArray) XC free := by
  obtain ⟨hrc, hrs, hfr, hlo, hws, hcw⟩ := cw.back
  have hini := cw.init
  have hK : vx_Back l R p e below s args y 3 8 (PreOf R mc ms Pc) (PostOf Qc mc ms free) (vx_Post XC mc ms free) := vx_back (bytes := bytes) (maxL := maxL) (ret := ret) hM hp.1 hrc hrs hfr hlo hws hcw (fun a' U hW => word_at hW (Or.inl (by first | rfl | simp [Cond.onTables, Cond.keeps, Cond.steady])) hini)
  obtain ⟨hx, hb, hml, ho, -⟩ := S
  obtain ⟨-, ⟨cellB, hcB, hoB, hclB⟩, hPc⟩ := hp
  intro T hT X
  rcases vx_callVU X hx (C := C) (owner := owner) (bytes := bytes) (maxL := maxL) (ret := ret) ho cw.link cw.same cw.decl cw.notMH cw.sel cw.inst cw.code hK (by rw [hT]; exact hcB) hoB hclB hg (hsize.trans hml.symm) (argsL := As) (rest := rest) (fun sig h => hn.trans (cw.len sig h)) hstack hW (by rw [hb]; exact hdg)
    (fun vm₁ hW₁ => ⟨hf.1, hf.2, hPc (T.setVm vm₁) hT hW₁⟩) with ⟨v, vm₁, ⟨U', l2, c2, s2⟩, hW₁, X', ⟨g', mk, t, L, e1, e2, hq, h1, hL, h2, h3⟩, st⟩ | ⟨q, vm₁, ⟨U', l2, c2, s2⟩, hW₁, X', ⟨g', mk, t, L, E, ce, e1, e2, hq, hce, hcv, hcl, h1, hL, h2, h3⟩, st⟩
  · dsimp only [Pt.U, Pt.locs, Pt.cells, Pt.slots] at X' e1 e2 h1 h2 h3 st
    subst h1; subst h2; subst h3
    exact Or.inl ⟨v, (T.setVm vm₁).calling g' mk (Value.ref b :: As).toArray, t, U', L, hT, X', hL, e1, e2, hq, st⟩
  · dsimp only [Pt.U, Pt.locs, Pt.cells, Pt.slots] at X' e1 e2 h1 h2 h3 st hcl
    subst h1; subst h2; subst h3
    exact Or.inr ⟨q, (T.setVm vm₁).calling g' mk (Value.ref b :: As).toArray, t, U', L, E, ce, hT, X', hL, e1, e2, hq, hce, hcv, vx_cls hW₁ hcl, st⟩
end
/-! ===== END ===== -/
/-! ===== BEGIN super.m(..) that may throw (follows va_callSU, va_runSU) ===== -/
section
variable {p : Program} {l : Launch} {e : Env} {R : Room} {s : State} {m : MethodId} {args : Array Value} {below : List Frame} {meth : Method} {c : Code} {H : Heap} {locs : List Loc} {cells slots : Nat}
theorem vx_callSU {T : State} {locs : List Loc} {cells slots : Nat} (X : Stand p l e R s m args below meth c T locs cells slots) (hexec : p.tables.exec = Jvm.exec) {own : String} {index : Nat} {y : MethodName} {bytes : ByteArray} {maxL : Nat} {ret : Option FieldType}
    (hown : s.vm.findClass own = some m.cls) (hlink : (Cond.methodLink own index y).before args s = true) (hsame : (Cond.sameMethod y.cls y.cls y.name y.desc).before args s = true) (hsup : (Cond.superclass own y.cls).before args s = true)
    (hinst : (Cond.instanceMethod y).before args s = true) (hcode : (Cond.code y bytes maxL ret).before args s = true) (hno : y.name ≠ "<init>")
    {W : Nat} {Pre : Pt → Array Value → Prop} {Post : Pt → Array Value → Option Value → Pt → Prop} {PostX : Pt → Array Value → Addr → Pt → Prop} (hK : vx_Back l R p e below s args y 3 W Pre Post PostX)
    {b : Addr} {cellB : Cell} {kB : Class} (hcell : T.heap[b]? = some cellB) (hobj : cellB.vm.isStatics = false) (hkB : s.vm.classes[cellB.cls]? = some kB)
    {g : JFrame} (hg : g.method = m) (hsize : g.locals.size = c.maxLocals) {argsL rest : List Value} (hlen : ∀ sig, parseMethodDescriptor y.desc = some sig → argsL.length = sig.parameters.length)
    (hstack : g.stack = argsL.reverse ++ .ref b :: rest) (hW : 2 * g.monitorRoom + (rest.map fun v => v.category).sum ≤ W) (hdg : decode c.code g.pc = .ok (.invokespecial index, 3))
    (hpre : ∀ vm₁, s.WarmedH vm₁ → Pre ⟨T.setVm vm₁, locs, cells, slots⟩ (Value.ref b :: argsL).toArray) :
    (∃ (v : Option Value) (vm₁ : Vm) (B : Pt), s.WarmedH vm₁ ∧ Stand p l e R s m args below meth c B.U B.locs B.cells B.slots ∧ Post ⟨T.setVm vm₁, locs, cells, slots⟩ (Value.ref b :: argsL).toArray v B ∧
      ∀ target, Steps p.tables e below (B.U.setTop { g with pc := g.pc + 3, stack := v.toList ++ rest }) target → Steps p.tables e below (T.setTop g) target) ∨
    (∃ (q : Addr) (vm₁ : Vm) (B : Pt), s.WarmedH vm₁ ∧ Stand p l e R s m args below meth c B.U B.locs B.cells B.slots ∧ PostX ⟨T.setVm vm₁, locs, cells, slots⟩ (Value.ref b :: argsL).toArray q B ∧
      Steps p.tables e below (T.setTop g) ((B.U.setTop { g with stack := rest }).pushFrame (.throwing q))) := by
  obtain ⟨mk, methM, hnamed, hmethM, hstM, habM⟩ := Cond.instanceMethod_spec hinst
  obtain ⟨methM', cM, hmethM', -, -, -, -, -, -, hsigM⟩ := Cond.code_spec hnamed hcode
  cases hmethM.symm.trans hmethM'
  obtain ⟨ps, dk, kp, hps, hdk, hkp, hsuper, -, -, hnid⟩ := Cond.superclass_spec hown hsup
  have hn : s.methodNamed? ⟨y.cls, y.name, y.desc⟩ = some mk := hnamed
  have hpm : ps = mk.cls := Option.some.inj (hps.symm.trans (findClass_of_methodNamed hnamed))
  have hsub : s.vm.isSubclass ps mk.cls = true := by rw [hpm]; simp [Vm.isSubclass, Vm.isSubclassAux]
  obtain ⟨vm₁, X₁, hstep₁⟩ := X.invokespecialUp hexec hown hlink hsame hn hmethM hstM habM hno hdk hnid hps hsuper hsub (a := b) (cell := cellB) hcell
    (fun z h => by rw [h] at hobj; cases hobj) hkB (g := g) hg (argsL := argsL) (rest := rest) (hlen _ hsigM) hstack hdg
  rcases hK m meth c ⟨T.setVm vm₁, locs, cells, slots⟩ { g with stack := rest } (.invokespecial index) mk (Value.ref b :: argsL).toArray X₁ hg hsize hdg hW (X₁.named hnamed) (hpre vm₁ X₁.warmed) with ⟨v, B, X', hpost, hsteps⟩ | ⟨q, B, X', hpost, hsteps⟩
  · exact Or.inl ⟨v, vm₁, B, X₁.warmed, X', hpost, fun target h => hstep₁ _ (by rw [doInvoke_state]; exact hsteps.trans h)⟩
  · exact Or.inr ⟨q, vm₁, B, X₁.warmed, X', hpost, hstep₁ _ (by rw [doInvoke_state]; exact hsteps)⟩
theorem vx_runSU {y : MethodName} {bytes cc : ByteArray} {maxL nL mc ms n index : Nat} {ret : Option FieldType} {ws : List Cond} {rm : Room} {Pc : Array Value → State → Prop} {Qc : Array Value → State → Outcome → State → Prop} {XC : String → State → State → Prop} {free : Addr → Prop} {Ts : List Cond} {own C : String} {cC : ClassId} {b : Addr} {As rest : List Value} {g : JFrame}
    (hat : ClassAt s C cC) (S : CallFix p m c cc nL s args Ts own) (hM : vx_Met l y ws rm Pc Qc XC mc ms free) (cw : va_CS R s args own index y bytes maxL ret ws rm mc ms n) (hp : PreV s H C b Pc As)
    (hg : g.method = m) (hn : As.length = n) (hsize : g.locals.size = nL) (hstack : g.stack = As.reverse ++ .ref b :: rest) (hW : 2 * g.monitorRoom + (rest.map fun v => v.category).sum ≤ 8) (hdg : decode cc g.pc = .ok (.invokespecial index, 3)) (hf : cells + mc ≤ R.cells ∧ slots + ms ≤ R.slots) :
    vx_Run p l e R s m args below meth c H locs cells slots mc ms g rest (Qc (Value.ref b :: As).toArray) XC free := by
  obtain ⟨⟨hrc, hrs, hfr, hlo, hws, hcw⟩, hl1, hl2, hl3, hl4, hini, hcode, hno, hlen⟩ := cw
  have hK : vx_Back l R p e below s args y 3 8 (PreOf R mc ms Pc) (PostOf Qc mc ms free) (vx_Post XC mc ms free) := vx_back (bytes := bytes) (maxL := maxL) (ret := ret) hM hp.1 hrc hrs hfr hlo hws hcw (fun a' U hW => word_at hW (Or.inl (by first | rfl | simp [Cond.onTables, Cond.keeps, Cond.steady])) hini)
  obtain ⟨hx, hb, hml, ho, -⟩ := S
  obtain ⟨-, ⟨cellB, hcB, hoB, hclB⟩, hPc⟩ := hp
  obtain ⟨hfc, kB, hkB, -⟩ := hat
  cases hfc.symm.trans hclB
  intro T hT X
  rcases vx_callSU X hx (bytes := bytes) (maxL := maxL) (ret := ret) ho hl1 hl2 hl3 hl4 hcode hno hK (by rw [hT]; exact hcB) hoB hkB hg (hsize.trans hml.symm) (argsL := As) (rest := rest) (fun sig h => hn.trans (hlen sig h)) hstack hW (by rw [hb]; exact hdg)
    (fun vm₁ hW₁ => ⟨hf.1, hf.2, hPc (T.setVm vm₁) hT hW₁⟩) with ⟨v, vm₁, ⟨U', l2, c2, s2⟩, hW₁, X', ⟨g', mk, t, L, e1, e2, hq, h1, hL, h2, h3⟩, st⟩ | ⟨q, vm₁, ⟨U', l2, c2, s2⟩, hW₁, X', ⟨g', mk, t, L, E, ce, e1, e2, hq, hce, hcv, hcl, h1, hL, h2, h3⟩, st⟩
  · dsimp only [Pt.U, Pt.locs, Pt.cells, Pt.slots] at X' e1 e2 h1 h2 h3 st
    subst h1; subst h2; subst h3
    exact Or.inl ⟨v, (T.setVm vm₁).calling g' mk (Value.ref b :: As).toArray, t, U', L, hT, X', hL, e1, e2, hq, st⟩
  · dsimp only [Pt.U, Pt.locs, Pt.cells, Pt.slots] at X' e1 e2 h1 h2 h3 st hcl
    subst h1; subst h2; subst h3
    exact Or.inr ⟨q, (T.setVm vm₁).calling g' mk (Value.ref b :: As).toArray, t, U', L, E, ce, hT, X', hL, e1, e2, hq, hce, hcv, vx_cls hW₁ hcl, st⟩
end
/-! ===== END ===== -/
/-! ===== BEGIN a private method of a nest mate that may throw (follows va_callVN, va_callSN, va_runVN, va_runSN) ===== -/
section
variable {p : Program} {l : Launch} {e : Env} {R : Room} {s : State} {m : MethodId} {args : Array Value} {below : List Frame} {meth : Method} {c : Code} {H : Heap} {locs : List Loc} {cells slots : Nat}
variable {T : State}
theorem vx_callVN (X : Stand p l e R s m args below meth c T locs cells slots) (hexec : p.tables.exec = Jvm.exec) {own C : String} {index : Nat} {host : String} {y : MethodName} {bytes : ByteArray} {maxL : Nat} {ret : Option FieldType}
    (hown : s.vm.findClass own = some m.cls) (hlink : (Cond.methodLinkNest own index y host).before args s = true) (hinst : (Cond.instanceMethod y).before args s = true) (hsel : (Cond.selects C y y).before args s = true)
    (hcode : (Cond.code y bytes maxL ret).before args s = true) (hy : y.cls ≠ "java/lang/invoke/MethodHandle" ∧ y.cls ≠ "java/lang/invoke/VarHandle")
    {W : Nat} {Pre : Pt → Array Value → Prop} {Post : Pt → Array Value → Option Value → Pt → Prop} {PostX : Pt → Array Value → Addr → Pt → Prop} (hK : vx_Back l R p e below s args y 3 W Pre Post PostX)
    {b : Addr} {cellB : Cell} (hcell : T.heap[b]? = some cellB) (hobj : cellB.vm.isStatics = false) (hcls : s.vm.findClass C = some cellB.cls)
    {g : JFrame} (hg : g.method = m) (hsize : g.locals.size = c.maxLocals) {argsL rest : List Value} (hlen : ∀ sig, parseMethodDescriptor y.desc = some sig → argsL.length = sig.parameters.length)
    (hstack : g.stack = argsL.reverse ++ .ref b :: rest) (hW : 2 * g.monitorRoom + (rest.map fun v => v.category).sum ≤ W) (hdg : decode c.code g.pc = .ok (.invokevirtual index, 3))
    (hpre : ∀ vm₁, s.WarmedH vm₁ → Pre ⟨T.setVm vm₁, locs, cells, slots⟩ (Value.ref b :: argsL).toArray) :
    (∃ (v : Option Value) (vm₁ : Vm) (B : Pt), s.WarmedH vm₁ ∧ Stand p l e R s m args below meth c B.U B.locs B.cells B.slots ∧ Post ⟨T.setVm vm₁, locs, cells, slots⟩ (Value.ref b :: argsL).toArray v B ∧
      ∀ target, Steps p.tables e below (B.U.setTop { g with pc := g.pc + 3, stack := v.toList ++ rest }) target → Steps p.tables e below (T.setTop g) target) ∨
    (∃ (q : Addr) (vm₁ : Vm) (B : Pt), s.WarmedH vm₁ ∧ Stand p l e R s m args below meth c B.U B.locs B.cells B.slots ∧ PostX ⟨T.setVm vm₁, locs, cells, slots⟩ (Value.ref b :: argsL).toArray q B ∧
      Steps p.tables e below (T.setTop g) ((B.U.setTop { g with stack := rest }).pushFrame (.throwing q))) := by
  obtain ⟨mk, methM, hnamed, hmethM, hstM, habM⟩ := Cond.instanceMethod_spec hinst
  obtain ⟨methM', cM, hmethM', -, -, -, -, -, -, hsigM⟩ := Cond.code_spec hnamed hcode
  cases hmethM.symm.trans hmethM'
  obtain ⟨c2, r2, m2, q1, q2, q3, q4, kP, hkP, hkPi⟩ := Cond.selects_spec hsel
  cases hcls.symm.trans q1
  cases (State.methodFound?_of_named hnamed hy).symm.trans q2
  cases hnamed.symm.trans q3
  have hselP : selectMethod e.platform s.vm cellB.cls mk = .method mk := by rw [Launch.admits_selectMethod X.admits]; exact q4
  obtain ⟨vm₁, X₁, hstep₁⟩ := X.invokevirtualNest hexec hown hlink hnamed hmethM hstM hkP hkPi hy (a := b) (cell := cellB) hcell
    (fun z h => by rw [h] at hobj; cases hobj) hselP hmethM habM hkP hkPi (g := g) hg (argsL := argsL) (rest := rest) (hlen _ hsigM) hstack hdg
  rcases hK m meth c ⟨T.setVm vm₁, locs, cells, slots⟩ { g with stack := rest } (.invokevirtual index) mk (Value.ref b :: argsL).toArray X₁ hg hsize hdg hW (X₁.named hnamed) (hpre vm₁ X₁.warmed) with ⟨v, B, X', hpost, hsteps⟩ | ⟨q, B, X', hpost, hsteps⟩
  · exact Or.inl ⟨v, vm₁, B, X₁.warmed, X', hpost, fun target h => hstep₁ _ fun acts => by rw [doInvoke_state]; exact hsteps.trans h⟩
  · exact Or.inr ⟨q, vm₁, B, X₁.warmed, X', hpost, hstep₁ _ fun acts => by rw [doInvoke_state]; exact hsteps⟩
theorem vx_callSN (X : Stand p l e R s m args below meth c T locs cells slots) (hexec : p.tables.exec = Jvm.exec) {own : String} {index : Nat} {host : String} {y : MethodName} {bytes : ByteArray} {maxL : Nat} {ret : Option FieldType}
    (hown : s.vm.findClass own = some m.cls) (hlink : (Cond.methodLinkNest own index y host).before args s = true) (hstat : (Cond.static y).before args s = true) (hinit : (Cond.initialized y.cls).before args s = true)
    (hcode : (Cond.code y bytes maxL ret).before args s = true) (hy : y.cls ≠ "java/lang/invoke/MethodHandle" ∧ y.cls ≠ "java/lang/invoke/VarHandle")
    {W : Nat} {Pre : Pt → Array Value → Prop} {Post : Pt → Array Value → Option Value → Pt → Prop} {PostX : Pt → Array Value → Addr → Pt → Prop} (hK : vx_Back l R p e below s args y 3 W Pre Post PostX)
    {g : JFrame} (hg : g.method = m) (hsize : g.locals.size = c.maxLocals) {argsL rest : List Value} (hlen : ∀ sig, parseMethodDescriptor y.desc = some sig → argsL.length = sig.parameters.length)
    (hstack : g.stack = argsL.reverse ++ rest) (hW : 2 * g.monitorRoom + (rest.map fun v => v.category).sum ≤ W) (hdg : decode c.code g.pc = .ok (.invokestatic index, 3))
    (hpre : ∀ vm₁, s.WarmedH vm₁ → Pre ⟨T.setVm vm₁, locs, cells, slots⟩ argsL.toArray) :
    (∃ (v : Option Value) (vm₁ : Vm) (B : Pt), s.WarmedH vm₁ ∧ Stand p l e R s m args below meth c B.U B.locs B.cells B.slots ∧ Post ⟨T.setVm vm₁, locs, cells, slots⟩ argsL.toArray v B ∧
      ∀ target, Steps p.tables e below (B.U.setTop { g with pc := g.pc + 3, stack := v.toList ++ rest }) target → Steps p.tables e below (T.setTop g) target) ∨
    (∃ (q : Addr) (vm₁ : Vm) (B : Pt), s.WarmedH vm₁ ∧ Stand p l e R s m args below meth c B.U B.locs B.cells B.slots ∧ PostX ⟨T.setVm vm₁, locs, cells, slots⟩ argsL.toArray q B ∧
      Steps p.tables e below (T.setTop g) ((B.U.setTop { g with stack := rest }).pushFrame (.throwing q))) := by
  obtain ⟨mk, hnamed⟩ := Cond.code_named hcode
  obtain ⟨methM, cM, hmethM, -, -, -, -, -, -, hsigM⟩ := Cond.code_spec hnamed hcode
  have hstatic : methM.isStatic = true := Cond.static_spec hnamed hmethM hstat
  obtain ⟨kP, hkP, -⟩ := className_of_methodNamed hnamed
  have hinitP : kP.init = .initialized := Cond.initialized_spec (findClass_of_methodNamed hnamed) hkP hinit
  obtain ⟨vm₁, X₁, hstep₁⟩ := X.invokestaticNest hexec hown hlink hnamed hmethM hstatic hkP hinitP hy (g := g) hg (argsL := argsL) (rest := rest) (hlen _ hsigM) hstack hdg
  rcases hK m meth c ⟨T.setVm vm₁, locs, cells, slots⟩ { g with stack := rest } (.invokestatic index) mk argsL.toArray X₁ hg hsize hdg hW (X₁.named hnamed) (hpre vm₁ X₁.warmed) with ⟨v, B, X', hpost, hsteps⟩ | ⟨q, B, X', hpost, hsteps⟩
  · exact Or.inl ⟨v, vm₁, B, X₁.warmed, X', hpost, fun target h => hstep₁ _ fun acts => by rw [doInvoke_state]; exact hsteps.trans h⟩
  · exact Or.inr ⟨q, vm₁, B, X₁.warmed, X', hpost, hstep₁ _ fun acts => by rw [doInvoke_state]; exact hsteps⟩
theorem vx_runVN {y : MethodName} {bytes cc : ByteArray} {maxL nL mc ms n index : Nat} {ret : Option FieldType} {ws : List Cond} {rm : Room} {Pc : Array Value → State → Prop} {Qc : Array Value → State → Outcome → State → Prop} {XC : String → State → State → Prop} {free : Addr → Prop} {Ts : List Cond} {own C host : String} {b : Addr} {As rest : List Value} {g : JFrame}
    (S : CallFix p m c cc nL s args Ts own) (hM : vx_Met l y ws rm Pc Qc XC mc ms free) (cw : va_CN R s args own index y host bytes maxL ret ws rm mc ms n ∧ (Cond.instanceMethod y).before args s = true ∧ (Cond.selects C y y).before args s = true) (hp : PreV s H C b Pc As)
    (hg : g.method = m) (hn : As.length = n) (hsize : g.locals.size = nL) (hstack : g.stack = As.reverse ++ .ref b :: rest) (hW : 2 * g.monitorRoom + (rest.map fun v => v.category).sum ≤ 8) (hdg : decode cc g.pc = .ok (.invokevirtual index, 3)) (hf : cells + mc ≤ R.cells ∧ slots + ms ≤ R.slots) :
    vx_Run p l e R s m args below meth c H locs cells slots mc ms g rest (Qc (Value.ref b :: As).toArray) XC free := by
  obtain ⟨⟨⟨hrc, hrs, hfr, hlo, hws, hcw⟩, hcode, hini, hy, hlen, hl⟩, hx1, hx2⟩ := cw
  have hK : vx_Back l R p e below s args y 3 8 (PreOf R mc ms Pc) (PostOf Qc mc ms free) (vx_Post XC mc ms free) := vx_back (bytes := bytes) (maxL := maxL) (ret := ret) hM hp.1 hrc hrs hfr hlo hws hcw (fun a' U hW => word_at hW (Or.inl (by first | rfl | simp [Cond.onTables, Cond.keeps, Cond.steady])) hini)
  obtain ⟨hx, hb, hml, ho, -⟩ := S
  obtain ⟨-, ⟨cellB, hcB, hoB, hclB⟩, hPc⟩ := hp
  intro T hT X
  rcases vx_callVN X hx (C := C) (bytes := bytes) (maxL := maxL) (ret := ret) ho hl hx1 hx2 hcode hy hK (by rw [hT]; exact hcB) hoB hclB hg (hsize.trans hml.symm) (argsL := As) (rest := rest) (fun sig h => hn.trans (hlen sig h)) hstack hW (by rw [hb]; exact hdg)
    (fun vm₁ hW₁ => ⟨hf.1, hf.2, hPc (T.setVm vm₁) hT hW₁⟩) with ⟨v, vm₁, ⟨U', l2, c2, s2⟩, hW₁, X', ⟨g', mk, t, L, e1, e2, hq, h1, hL, h2, h3⟩, st⟩ | ⟨q, vm₁, ⟨U', l2, c2, s2⟩, hW₁, X', ⟨g', mk, t, L, E, ce, e1, e2, hq, hce, hcv, hcl, h1, hL, h2, h3⟩, st⟩
  · dsimp only [Pt.U, Pt.locs, Pt.cells, Pt.slots] at X' e1 e2 h1 h2 h3 st
    subst h1; subst h2; subst h3
    exact Or.inl ⟨v, (T.setVm vm₁).calling g' mk (Value.ref b :: As).toArray, t, U', L, hT, X', hL, e1, e2, hq, st⟩
  · dsimp only [Pt.U, Pt.locs, Pt.cells, Pt.slots] at X' e1 e2 h1 h2 h3 st hcl
    subst h1; subst h2; subst h3
    exact Or.inr ⟨q, (T.setVm vm₁).calling g' mk (Value.ref b :: As).toArray, t, U', L, E, ce, hT, X', hL, e1, e2, hq, hce, hcv, vx_cls hW₁ hcl, st⟩
theorem vx_runSN {y : MethodName} {bytes cc : ByteArray} {maxL nL mc ms n index : Nat} {ret : Option FieldType} {ws : List Cond} {rm : Room} {Pc : Array Value → State → Prop} {Qc : Array Value → State → Outcome → State → Prop} {XC : String → State → State → Prop} {free : Addr → Prop} {Ts : List Cond} {own host : String} {As rest : List Value} {g : JFrame}
    (S : CallFix p m c cc nL s args Ts own) (hM : vx_Met l y ws rm Pc Qc XC mc ms free) (cw : va_CN R s args own index y host bytes maxL ret ws rm mc ms n ∧ (Cond.static y).before args s = true ∧ True) (hp : PreS s H Pc As)
    (hg : g.method = m) (hn : As.length = n) (hsize : g.locals.size = nL) (hstack : g.stack = As.reverse ++ rest) (hW : 2 * g.monitorRoom + (rest.map fun v => v.category).sum ≤ 8) (hdg : decode cc g.pc = .ok (.invokestatic index, 3)) (hf : cells + mc ≤ R.cells ∧ slots + ms ≤ R.slots) :
    vx_Run p l e R s m args below meth c H locs cells slots mc ms g rest (Qc As.toArray) XC free := by
  obtain ⟨⟨⟨hrc, hrs, hfr, hlo, hws, hcw⟩, hcode, hini, hy, hlen, hl⟩, hx1, hx2⟩ := cw
  have hK : vx_Back l R p e below s args y 3 8 (PreOf R mc ms Pc) (PostOf Qc mc ms free) (vx_Post XC mc ms free) := vx_back (bytes := bytes) (maxL := maxL) (ret := ret) hM hp.1 hrc hrs hfr hlo hws hcw (fun a' U hW => word_at hW (Or.inl (by first | rfl | simp [Cond.onTables, Cond.keeps, Cond.steady])) hini)
  obtain ⟨hx, hb, hml, ho, -⟩ := S
  have hPc := hp.2
  intro T hT X
  rcases vx_callSN X hx (bytes := bytes) (maxL := maxL) (ret := ret) ho hl hx1 hini hcode hy hK hg (hsize.trans hml.symm) (argsL := As) (rest := rest) (fun sig h => hn.trans (hlen sig h)) hstack hW (by rw [hb]; exact hdg)
    (fun vm₁ hW₁ => ⟨hf.1, hf.2, hPc (T.setVm vm₁) hT hW₁⟩) with ⟨v, vm₁, ⟨U', l2, c2, s2⟩, hW₁, X', ⟨g', mk, t, L, e1, e2, hq, h1, hL, h2, h3⟩, st⟩ | ⟨q, vm₁, ⟨U', l2, c2, s2⟩, hW₁, X', ⟨g', mk, t, L, E, ce, e1, e2, hq, hce, hcv, hcl, h1, hL, h2, h3⟩, st⟩
  · dsimp only [Pt.U, Pt.locs, Pt.cells, Pt.slots] at X' e1 e2 h1 h2 h3 st
    subst h1; subst h2; subst h3
    exact Or.inl ⟨v, (T.setVm vm₁).calling g' mk As.toArray, t, U', L, hT, X', hL, e1, e2, hq, st⟩
  · dsimp only [Pt.U, Pt.locs, Pt.cells, Pt.slots] at X' e1 e2 h1 h2 h3 st hcl
    subst h1; subst h2; subst h3
    exact Or.inr ⟨q, (T.setVm vm₁).calling g' mk As.toArray, t, U', L, E, ce, hT, X', hL, e1, e2, hq, hce, hcv, vx_cls hW₁ hcl, st⟩
end
/-! ===== END ===== -/
/-! ===== BEGIN calls by an interface of methods that may throw (vx_callIF, vx_runF follow va_callIF, va_runF of this kit) ===== -/
section
variable {p : Program} {l : Launch} {e : Env} {R : Room} {s : State} {m : MethodId} {args : Array Value} {below : List Frame} {meth : Method} {c : Code} {H : Heap} {locs : List Loc} {cells slots : Nat} {Q : State → Prop}
variable {mc ms : Nat} {free : Addr → Prop} {A0 A1 : Nat → Prop} {H0 : Heap} {a : Array Value} {pc : Nat} {ls : Array Slot} {st0 rest : List Value}
def vx_Run5 (p : Program) (l : Launch) (e : Env) (R : Room) (s : State) (m : MethodId) (args : Array Value) (below : List Frame) (meth : Method) (c : Code) (H : Heap) (locs : List Loc) (cells slots mc ms : Nat) (g : JFrame) (rest : List Value) (Qa : State → Outcome → State → Prop) (XC : String → State → State → Prop) (free : Addr → Prop) : Prop :=
  ∀ T : State, T.heap = H → Stand p l e R s m args below meth c T locs cells slots →
    (∃ (v : Option Value) (st₀ t T' : State) (L : List Loc), st₀.heap = H ∧ Stand p l e R s m args below meth c T' (locs ++ L) (cells + mc) (slots + ms) ∧ (∀ q ∈ L, free q.base) ∧ T'.heap = t.heap ∧ T'.vm = t.vm ∧ Qa st₀ (.returned v) t ∧
      Goes p e below T g T' { g with pc := g.pc + 5, stack := v.toList ++ rest }) ∨
    (∃ (q : Addr) (st₀ t T' : State) (L : List Loc) (E : String) (ce : Cell), st₀.heap = H ∧ Stand p l e R s m args below meth c T' (locs ++ L) (cells + mc) (slots + ms) ∧ (∀ z ∈ L, free z.base) ∧ T'.heap = t.heap ∧ T'.vm = t.vm ∧ XC E st₀ t ∧ t.heap[q]? = some ce ∧ ce.vm = .none ∧ s.vm.findClass E = some ce.cls ∧
      Steps p.tables e below (T.setTop g) ((T'.setTop { g with stack := rest }).pushFrame (.throwing q)))
theorem vx_callIF {T : State} (X : Stand p l e R s m args below meth c T locs cells slots) (hexec : p.tables.exec = Jvm.exec) {own C : String} {index count : Nat} {x y : MethodName} {bytes : ByteArray} {maxL : Nat} {ret : Option FieldType}
    (hown : s.vm.findClass own = some m.cls) (hlink : (Cond.methodLink own index x).before args s = true) (hdecl : (Cond.declares x).before args s = true) (hface : (Cond.interfaceMethod x.cls x.cls x.name x.desc).before args s = true)
    (hsel : (Cond.selects C x y).before args s = true) (hinst : (Cond.instanceMethod y).before args s = true) (hpub : (Cond.publicMethod y).before args s = true) (hunh : (Cond.unhidden C x.name x.desc).before args s = true)
    (hcast : (Cond.castable C x.cls).before args s = true) (hcode : (Cond.code y bytes maxL ret).before args s = true) (hx : x.cls ≠ "java/lang/invoke/MethodHandle" ∧ x.cls ≠ "java/lang/invoke/VarHandle")
    {W9 : Nat} {Pre : Pt → Array Value → Prop} {Post : Pt → Array Value → Option Value → Pt → Prop} {PostX : Pt → Array Value → Addr → Pt → Prop} (hK : vx_Back l R p e below s args y 5 W9 Pre Post PostX)
    {b : Addr} {cellB : Cell} {kB : Class} (hcell : T.heap[b]? = some cellB) (hobj : cellB.vm.isStatics = false) (hcls : s.vm.findClass C = some cellB.cls) (hkB : s.vm.classes[cellB.cls]? = some kB)
    {g : JFrame} (hg : g.method = m) (hsize : g.locals.size = c.maxLocals) {argsL rest : List Value} (hlen : ∀ sig, parseMethodDescriptor x.desc = some sig → argsL.length = sig.parameters.length)
    (hstack : g.stack = argsL.reverse ++ .ref b :: rest) (hW : 2 * g.monitorRoom + (rest.map fun v => v.category).sum ≤ W9) (hdg : decode c.code g.pc = .ok (.invokeinterface index count, 5))
    (hpre : ∀ vm₁, s.WarmedH vm₁ → Pre ⟨T.setVm vm₁, locs, cells, slots⟩ (Value.ref b :: argsL).toArray) :
    (∃ (v : Option Value) (vm₁ : Vm) (B : Pt), s.WarmedH vm₁ ∧ Stand p l e R s m args below meth c B.U B.locs B.cells B.slots ∧ Post ⟨T.setVm vm₁, locs, cells, slots⟩ (Value.ref b :: argsL).toArray v B ∧
      ∀ target, Steps p.tables e below (B.U.setTop { g with pc := g.pc + 5, stack := v.toList ++ rest }) target → Steps p.tables e below (T.setTop g) target) ∨
    (∃ (q : Addr) (vm₁ : Vm) (B : Pt), s.WarmedH vm₁ ∧ Stand p l e R s m args below meth c B.U B.locs B.cells B.slots ∧ PostX ⟨T.setVm vm₁, locs, cells, slots⟩ (Value.ref b :: argsL).toArray q B ∧
      Steps p.tables e below (T.setTop g) ((B.U.setTop { g with stack := rest }).pushFrame (.throwing q))) := by
  obtain ⟨r0, r, hn, hrm, hstR, hsigR⟩ := Cond.declares_spec hdecl
  obtain ⟨cL, kL, r1, hcL, hkL, hiL, hfoundL, hn1⟩ := Cond.interfaceMethod_spec hface
  cases hn.symm.trans hn1
  have hr0cls : r0.cls = cL := Option.some.inj ((findClass_of_methodNamed hn).symm.trans hcL)
  obtain ⟨hnameR, hdescR⟩ := name_of_methodNamed hn hrm
  obtain ⟨mk, methM, hnamed, hmethM, -, habM⟩ := Cond.instanceMethod_spec hinst
  obtain ⟨c2, r2, m2, q1, q2, q3, q4, -⟩ := Cond.selects_spec hsel
  cases hcls.symm.trans q1
  cases hfoundL.symm.trans q2
  cases hnamed.symm.trans q3
  have hselP : selectMethod e.platform s.vm cellB.cls r0 = .method mk := by rw [Launch.admits_selectMethod X.admits]; exact q4
  have hpubM : hasFlag methM.accessFlags Acc.public_ = true := Cond.publicMethod_spec hnamed hmethM hpub
  have hway : ((cellB.cls :: s.vm.superclasses cellB.cls).any fun k => (declaredIn s.vm r.name r.desc k).any fun (_, z) => z.isPrivate || z.isStatic) = false := by
    rw [hnameR, hdescR]; exact Cond.unhidden_spec hcls hunh
  obtain ⟨c3, t3, w1, w2, w3⟩ := Cond.castable_spec hcast
  cases hcls.symm.trans w1
  cases hcL.symm.trans w2
  obtain ⟨vm₁, X₁, hstep₁⟩ := X.invokeinterface hexec hown hlink hn hrm hstR (by rw [hr0cls]; exact hkL) hiL hx (a := b) (cell := cellB) (kcell := kB) hcell
    (fun z h => by rw [h] at hobj; cases hobj) hkB (by rw [hr0cls]; exact w3) hselP hmethM hway hpubM habM (g := g) hg (argsL := argsL) (rest := rest) (hlen _ hsigR) hstack hdg
  rcases hK m meth c ⟨T.setVm vm₁, locs, cells, slots⟩ { g with stack := rest } (.invokeinterface index count) mk (Value.ref b :: argsL).toArray X₁ hg hsize hdg hW (X₁.named hnamed) (hpre vm₁ X₁.warmed) with ⟨v, B, X', hpost, hsteps⟩ | ⟨q, B, X', hpost, hsteps⟩
  · exact Or.inl ⟨v, vm₁, B, X₁.warmed, X', hpost, fun target h => hstep₁ _ fun acts => by rw [doInvoke_state]; exact hsteps.trans h⟩
  · exact Or.inr ⟨q, vm₁, B, X₁.warmed, X', hpost, hstep₁ _ fun acts => by rw [doInvoke_state]; exact hsteps⟩
theorem vx_runF {x y : MethodName} {bytes cc : ByteArray} {maxL nL mc ms n index count : Nat} {ret : Option FieldType} {ws : List Cond} {rm : Room} {Pc : Array Value → State → Prop} {Qc : Array Value → State → Outcome → State → Prop} {XC : String → State → State → Prop} {free : Addr → Prop} {Ts : List Cond} {own C : String} {cC : ClassId} {b : Addr} {As rest : List Value} {g : JFrame}
    (hat : ClassAt s C cC) (S : CallFix p m c cc nL s args Ts own) (hM : vx_Met l y ws rm Pc Qc XC mc ms free) (cw : va_CI R s args own C index x y bytes maxL ret ws rm mc ms n) (hp : PreV s H C b Pc As)
    (hg : g.method = m) (hn : As.length = n) (hsize : g.locals.size = nL) (hstack : g.stack = As.reverse ++ .ref b :: rest) (hW : 2 * g.monitorRoom + (rest.map fun v => v.category).sum ≤ 8) (hdg : decode cc g.pc = .ok (.invokeinterface index count, 5)) (hf : cells + mc ≤ R.cells ∧ slots + ms ≤ R.slots) :
    vx_Run5 p l e R s m args below meth c H locs cells slots mc ms g rest (Qc (Value.ref b :: As).toArray) XC free := by
  obtain ⟨hrc, hrs, hfr, hlo, hws, hcw⟩ := cw.back
  have hini := cw.init
  have hK : vx_Back l R p e below s args y 5 8 (PreOf R mc ms Pc) (PostOf Qc mc ms free) (vx_Post XC mc ms free) := vx_back (bytes := bytes) (maxL := maxL) (ret := ret) hM hp.1 hrc hrs hfr hlo hws hcw (fun a' U hW => word_at hW (Or.inl (by first | rfl | simp [Cond.onTables, Cond.keeps, Cond.steady])) hini)
  obtain ⟨hx, hb, hml, ho, -⟩ := S
  obtain ⟨-, ⟨cellB, hcB, hoB, hclB⟩, hPc⟩ := hp
  obtain ⟨hfc, kB, hkB, -⟩ := hat
  cases hfc.symm.trans hclB
  intro T hT X
  rcases vx_callIF X hx (C := C) (bytes := bytes) (maxL := maxL) (ret := ret) ho cw.link cw.decl cw.face cw.sel cw.inst cw.pub cw.unh cw.cast cw.code cw.notMH hK (by rw [hT]; exact hcB) hoB hclB hkB hg (hsize.trans hml.symm) (argsL := As) (rest := rest) (fun sig h => hn.trans (cw.len sig h)) hstack hW (by rw [hb]; exact hdg)
    (fun vm₁ hW₁ => ⟨hf.1, hf.2, hPc (T.setVm vm₁) hT hW₁⟩) with ⟨v, vm₁, ⟨U', l2, c2, s2⟩, hW₁, X', ⟨g', mk, t, L, e1, e2, hq, h1, hL, h2, h3⟩, st⟩ | ⟨q, vm₁, ⟨U', l2, c2, s2⟩, hW₁, X', ⟨g', mk, t, L, E, ce, e1, e2, hq, hce, hcv, hcl, h1, hL, h2, h3⟩, st⟩
  · dsimp only [Pt.U, Pt.locs, Pt.cells, Pt.slots] at X' e1 e2 h1 h2 h3 st
    subst h1; subst h2; subst h3
    exact Or.inl ⟨v, (T.setVm vm₁).calling g' mk (Value.ref b :: As).toArray, t, U', L, hT, X', hL, e1, e2, hq, st⟩
  · dsimp only [Pt.U, Pt.locs, Pt.cells, Pt.slots] at X' e1 e2 h1 h2 h3 st hcl
    subst h1; subst h2; subst h3
    exact Or.inr ⟨q, (T.setVm vm₁).calling g' mk (Value.ref b :: As).toArray, t, U', L, E, ce, hT, X', hL, e1, e2, hq, hce, hcv, vx_cls hW₁ hcl, st⟩
theorem vx_callFv {S SX : Type} {post : S → Prop} {px : SX → Prop} {B : S → State → Prop} {BX : String → SX → State → Prop} {AX : Nat → Prop} (hr : vx_Run5 p l e R s m args below meth c H locs cells slots mc ms (F0 m pc ls st0) rest (va_Qv post B A1 a) (vx_X px BX AX) free) (hS : va_S A0 H0 H locs) (hA : ∀ q, q < H.size → A1 q → A0 q) (hf : ∀ q, free q → A0 q) (hAX : ∀ q, q < H.size → AX q → A0 q)
    (kx : ∀ (E : String) (ce : Cell) (q9 : Addr) (u : SX) (t : State) (H1 : Heap) (locs1 : List Loc), t.heap = H1 → s.vm.Alike t.vm → px u → BX E u t → H.size ≤ H1.size → (∀ q : Nat, q < H.size → ¬ AX q → H1[q]? = H[q]?) → va_S A0 H0 H1 locs1 → H1[q9]? = some ce → ce.vm = .none → s.vm.findClass E = some ce.cls → vx_W p l e R s m args below meth c H1 locs1 (cells + mc) (slots + ms) Q (F0 m pc ls rest) q9)
    (kk : ∀ (u : S) (t : State) (H1 : Heap) (locs1 : List Loc), t.heap = H1 → s.vm.Alike t.vm → post u → B u t → H.size ≤ H1.size → (∀ q : Nat, q < H.size → ¬ A1 q → H1[q]? = H[q]?) → va_S A0 H0 H1 locs1 → W p l e R s m args below meth c H1 locs1 (cells + mc) (slots + ms) Q (F0 m (pc + 5) ls (rest))) : W p l e R s m args below meth c H locs cells slots Q (F0 m pc ls st0) := by
  intro T hT X
  rcases hr T hT X with ⟨v, st₀, t, T', L, h0, X', hL, e1, e2, ⟨⟨u, hv, hp, hb⟩, hF⟩, st⟩ | ⟨q, st₀, t, T', L, E, ce, h0, X', hL, e1, e2, ⟨u, hp, hb, hF⟩, hce, hcv, hcl, st⟩
  · cases hv
    obtain ⟨k1, k2, k3⟩ := vx_keep h0 e1 hS hA hf hL hF
    obtain ⟨t2, a1, b1⟩ := kk u t T'.heap (locs ++ L) e1.symm (by rw [← e2]; exact X'.warmed.alike) hp hb k1 k2 k3 T' rfl X'
    exact ⟨t2, st t2 a1, b1⟩
  · obtain ⟨k1, k2, k3⟩ := vx_keep h0 e1 hS hAX hf hL hF
    obtain ⟨t2, a1, b1⟩ := kx E ce q u t T'.heap (locs ++ L) e1.symm (by rw [← e2]; exact X'.warmed.alike) hp hb k1 k2 k3 (by rw [e1]; exact hce) hcv hcl T' rfl X'
    exact ⟨t2, st.trans a1, b1⟩
theorem vx_callFi {S SX : Type} {post : Int32 → S → Prop} {px : SX → Prop} {B : S → State → Prop} {BX : String → SX → State → Prop} {AX : Nat → Prop} (hr : vx_Run5 p l e R s m args below meth c H locs cells slots mc ms (F0 m pc ls st0) rest (va_Qi post B A1 a) (vx_X px BX AX) free) (hS : va_S A0 H0 H locs) (hA : ∀ q, q < H.size → A1 q → A0 q) (hf : ∀ q, free q → A0 q) (hAX : ∀ q, q < H.size → AX q → A0 q)
    (kx : ∀ (E : String) (ce : Cell) (q9 : Addr) (u : SX) (t : State) (H1 : Heap) (locs1 : List Loc), t.heap = H1 → s.vm.Alike t.vm → px u → BX E u t → H.size ≤ H1.size → (∀ q : Nat, q < H.size → ¬ AX q → H1[q]? = H[q]?) → va_S A0 H0 H1 locs1 → H1[q9]? = some ce → ce.vm = .none → s.vm.findClass E = some ce.cls → vx_W p l e R s m args below meth c H1 locs1 (cells + mc) (slots + ms) Q (F0 m pc ls rest) q9)
    (kk : ∀ (r : Int32) (u : S) (t : State) (H1 : Heap) (locs1 : List Loc), t.heap = H1 → s.vm.Alike t.vm → post r u → B u t → H.size ≤ H1.size → (∀ q : Nat, q < H.size → ¬ A1 q → H1[q]? = H[q]?) → va_S A0 H0 H1 locs1 → W p l e R s m args below meth c H1 locs1 (cells + mc) (slots + ms) Q (F0 m (pc + 5) ls (.int r :: rest))) : W p l e R s m args below meth c H locs cells slots Q (F0 m pc ls st0) := by
  intro T hT X
  rcases hr T hT X with ⟨v, st₀, t, T', L, h0, X', hL, e1, e2, ⟨⟨r, u, hv, hp, hb⟩, hF⟩, st⟩ | ⟨q, st₀, t, T', L, E, ce, h0, X', hL, e1, e2, ⟨u, hp, hb, hF⟩, hce, hcv, hcl, st⟩
  · cases hv
    obtain ⟨k1, k2, k3⟩ := vx_keep h0 e1 hS hA hf hL hF
    obtain ⟨t2, a1, b1⟩ := kk r u t T'.heap (locs ++ L) e1.symm (by rw [← e2]; exact X'.warmed.alike) hp hb k1 k2 k3 T' rfl X'
    exact ⟨t2, st t2 a1, b1⟩
  · obtain ⟨k1, k2, k3⟩ := vx_keep h0 e1 hS hAX hf hL hF
    obtain ⟨t2, a1, b1⟩ := kx E ce q u t T'.heap (locs ++ L) e1.symm (by rw [← e2]; exact X'.warmed.alike) hp hb k1 k2 k3 (by rw [e1]; exact hce) hcv hcl T' rfl X'
    exact ⟨t2, st.trans a1, b1⟩
theorem vx_callFl {S SX : Type} {post : Int64 → S → Prop} {px : SX → Prop} {B : S → State → Prop} {BX : String → SX → State → Prop} {AX : Nat → Prop} (hr : vx_Run5 p l e R s m args below meth c H locs cells slots mc ms (F0 m pc ls st0) rest (va_Ql post B A1 a) (vx_X px BX AX) free) (hS : va_S A0 H0 H locs) (hA : ∀ q, q < H.size → A1 q → A0 q) (hf : ∀ q, free q → A0 q) (hAX : ∀ q, q < H.size → AX q → A0 q)
    (kx : ∀ (E : String) (ce : Cell) (q9 : Addr) (u : SX) (t : State) (H1 : Heap) (locs1 : List Loc), t.heap = H1 → s.vm.Alike t.vm → px u → BX E u t → H.size ≤ H1.size → (∀ q : Nat, q < H.size → ¬ AX q → H1[q]? = H[q]?) → va_S A0 H0 H1 locs1 → H1[q9]? = some ce → ce.vm = .none → s.vm.findClass E = some ce.cls → vx_W p l e R s m args below meth c H1 locs1 (cells + mc) (slots + ms) Q (F0 m pc ls rest) q9)
    (kk : ∀ (r : Int64) (u : S) (t : State) (H1 : Heap) (locs1 : List Loc), t.heap = H1 → s.vm.Alike t.vm → post r u → B u t → H.size ≤ H1.size → (∀ q : Nat, q < H.size → ¬ A1 q → H1[q]? = H[q]?) → va_S A0 H0 H1 locs1 → W p l e R s m args below meth c H1 locs1 (cells + mc) (slots + ms) Q (F0 m (pc + 5) ls (.long r :: rest))) : W p l e R s m args below meth c H locs cells slots Q (F0 m pc ls st0) := by
  intro T hT X
  rcases hr T hT X with ⟨v, st₀, t, T', L, h0, X', hL, e1, e2, ⟨⟨r, u, hv, hp, hb⟩, hF⟩, st⟩ | ⟨q, st₀, t, T', L, E, ce, h0, X', hL, e1, e2, ⟨u, hp, hb, hF⟩, hce, hcv, hcl, st⟩
  · cases hv
    obtain ⟨k1, k2, k3⟩ := vx_keep h0 e1 hS hA hf hL hF
    obtain ⟨t2, a1, b1⟩ := kk r u t T'.heap (locs ++ L) e1.symm (by rw [← e2]; exact X'.warmed.alike) hp hb k1 k2 k3 T' rfl X'
    exact ⟨t2, st t2 a1, b1⟩
  · obtain ⟨k1, k2, k3⟩ := vx_keep h0 e1 hS hAX hf hL hF
    obtain ⟨t2, a1, b1⟩ := kx E ce q u t T'.heap (locs ++ L) e1.symm (by rw [← e2]; exact X'.warmed.alike) hp hb k1 k2 k3 (by rw [e1]; exact hce) hcv hcl T' rfl X'
    exact ⟨t2, st.trans a1, b1⟩
theorem vx_callFf {S SX : Type} {post : UInt32 → S → Prop} {px : SX → Prop} {B : S → State → Prop} {BX : String → SX → State → Prop} {AX : Nat → Prop} (hr : vx_Run5 p l e R s m args below meth c H locs cells slots mc ms (F0 m pc ls st0) rest (va_Qf post B A1 a) (vx_X px BX AX) free) (hS : va_S A0 H0 H locs) (hA : ∀ q, q < H.size → A1 q → A0 q) (hf : ∀ q, free q → A0 q) (hAX : ∀ q, q < H.size → AX q → A0 q)
    (kx : ∀ (E : String) (ce : Cell) (q9 : Addr) (u : SX) (t : State) (H1 : Heap) (locs1 : List Loc), t.heap = H1 → s.vm.Alike t.vm → px u → BX E u t → H.size ≤ H1.size → (∀ q : Nat, q < H.size → ¬ AX q → H1[q]? = H[q]?) → va_S A0 H0 H1 locs1 → H1[q9]? = some ce → ce.vm = .none → s.vm.findClass E = some ce.cls → vx_W p l e R s m args below meth c H1 locs1 (cells + mc) (slots + ms) Q (F0 m pc ls rest) q9)
    (kk : ∀ (r : UInt32) (u : S) (t : State) (H1 : Heap) (locs1 : List Loc), t.heap = H1 → s.vm.Alike t.vm → post r u → B u t → H.size ≤ H1.size → (∀ q : Nat, q < H.size → ¬ A1 q → H1[q]? = H[q]?) → va_S A0 H0 H1 locs1 → W p l e R s m args below meth c H1 locs1 (cells + mc) (slots + ms) Q (F0 m (pc + 5) ls (.float r :: rest))) : W p l e R s m args below meth c H locs cells slots Q (F0 m pc ls st0) := by
  intro T hT X
  rcases hr T hT X with ⟨v, st₀, t, T', L, h0, X', hL, e1, e2, ⟨⟨r, u, hv, hp, hb⟩, hF⟩, st⟩ | ⟨q, st₀, t, T', L, E, ce, h0, X', hL, e1, e2, ⟨u, hp, hb, hF⟩, hce, hcv, hcl, st⟩
  · cases hv
    obtain ⟨k1, k2, k3⟩ := vx_keep h0 e1 hS hA hf hL hF
    obtain ⟨t2, a1, b1⟩ := kk r u t T'.heap (locs ++ L) e1.symm (by rw [← e2]; exact X'.warmed.alike) hp hb k1 k2 k3 T' rfl X'
    exact ⟨t2, st t2 a1, b1⟩
  · obtain ⟨k1, k2, k3⟩ := vx_keep h0 e1 hS hAX hf hL hF
    obtain ⟨t2, a1, b1⟩ := kx E ce q u t T'.heap (locs ++ L) e1.symm (by rw [← e2]; exact X'.warmed.alike) hp hb k1 k2 k3 (by rw [e1]; exact hce) hcv hcl T' rfl X'
    exact ⟨t2, st.trans a1, b1⟩
theorem vx_callFd {S SX : Type} {post : UInt64 → S → Prop} {px : SX → Prop} {B : S → State → Prop} {BX : String → SX → State → Prop} {AX : Nat → Prop} (hr : vx_Run5 p l e R s m args below meth c H locs cells slots mc ms (F0 m pc ls st0) rest (va_Qd post B A1 a) (vx_X px BX AX) free) (hS : va_S A0 H0 H locs) (hA : ∀ q, q < H.size → A1 q → A0 q) (hf : ∀ q, free q → A0 q) (hAX : ∀ q, q < H.size → AX q → A0 q)
    (kx : ∀ (E : String) (ce : Cell) (q9 : Addr) (u : SX) (t : State) (H1 : Heap) (locs1 : List Loc), t.heap = H1 → s.vm.Alike t.vm → px u → BX E u t → H.size ≤ H1.size → (∀ q : Nat, q < H.size → ¬ AX q → H1[q]? = H[q]?) → va_S A0 H0 H1 locs1 → H1[q9]? = some ce → ce.vm = .none → s.vm.findClass E = some ce.cls → vx_W p l e R s m args below meth c H1 locs1 (cells + mc) (slots + ms) Q (F0 m pc ls rest) q9)
    (kk : ∀ (r : UInt64) (u : S) (t : State) (H1 : Heap) (locs1 : List Loc), t.heap = H1 → s.vm.Alike t.vm → post r u → B u t → H.size ≤ H1.size → (∀ q : Nat, q < H.size → ¬ A1 q → H1[q]? = H[q]?) → va_S A0 H0 H1 locs1 → W p l e R s m args below meth c H1 locs1 (cells + mc) (slots + ms) Q (F0 m (pc + 5) ls (.double r :: rest))) : W p l e R s m args below meth c H locs cells slots Q (F0 m pc ls st0) := by
  intro T hT X
  rcases hr T hT X with ⟨v, st₀, t, T', L, h0, X', hL, e1, e2, ⟨⟨r, u, hv, hp, hb⟩, hF⟩, st⟩ | ⟨q, st₀, t, T', L, E, ce, h0, X', hL, e1, e2, ⟨u, hp, hb, hF⟩, hce, hcv, hcl, st⟩
  · cases hv
    obtain ⟨k1, k2, k3⟩ := vx_keep h0 e1 hS hA hf hL hF
    obtain ⟨t2, a1, b1⟩ := kk r u t T'.heap (locs ++ L) e1.symm (by rw [← e2]; exact X'.warmed.alike) hp hb k1 k2 k3 T' rfl X'
    exact ⟨t2, st t2 a1, b1⟩
  · obtain ⟨k1, k2, k3⟩ := vx_keep h0 e1 hS hAX hf hL hF
    obtain ⟨t2, a1, b1⟩ := kx E ce q u t T'.heap (locs ++ L) e1.symm (by rw [← e2]; exact X'.warmed.alike) hp hb k1 k2 k3 (by rw [e1]; exact hce) hcv hcl T' rfl X'
    exact ⟨t2, st.trans a1, b1⟩
end
/-! ===== END ===== -/
/-! ===== BEGIN by an interface, a method with a table of its own that may throw (follows va_callIFW, va_runFW) ===== -/
section
variable {p : Program} {l : Launch} {e : Env} {R : Room} {s : State} {m : MethodId} {args : Array Value} {below : List Frame} {meth : Method} {c : Code} {H : Heap} {locs : List Loc} {cells slots : Nat}
theorem vx_callIFW {T : State} (X : Stand p l e R s m args below meth c T locs cells slots) (hexec : p.tables.exec = Jvm.exec) {own C : String} {index count : Nat} {x y : MethodName} {bytes : ByteArray} {maxL : Nat} {ret : Option FieldType} {hh : List (Nat × Nat × Nat × Nat)}
    (hown : s.vm.findClass own = some m.cls) (hlink : (Cond.methodLink own index x).before args s = true) (hdecl : (Cond.declares x).before args s = true) (hface : (Cond.interfaceMethod x.cls x.cls x.name x.desc).before args s = true)
    (hsel : (Cond.selects C x y).before args s = true) (hinst : (Cond.instanceMethod y).before args s = true) (hpub : (Cond.publicMethod y).before args s = true) (hunh : (Cond.unhidden C x.name x.desc).before args s = true)
    (hcast : (Cond.castable C x.cls).before args s = true) (hcode : (Cond.codeWith y bytes maxL ret hh).before args s = true) (hx : x.cls ≠ "java/lang/invoke/MethodHandle" ∧ x.cls ≠ "java/lang/invoke/VarHandle")
    {W : Nat} {Pre : Pt → Array Value → Prop} {Post : Pt → Array Value → Option Value → Pt → Prop} {PostX : Pt → Array Value → Addr → Pt → Prop} (hK : vx_Back l R p e below s args y 5 W Pre Post PostX)
    {b : Addr} {cellB : Cell} {kB : Class} (hcell : T.heap[b]? = some cellB) (hobj : cellB.vm.isStatics = false) (hcls : s.vm.findClass C = some cellB.cls) (hkB : s.vm.classes[cellB.cls]? = some kB)
    {g : JFrame} (hg : g.method = m) (hsize : g.locals.size = c.maxLocals) {argsL rest : List Value} (hlen : ∀ sig, parseMethodDescriptor x.desc = some sig → argsL.length = sig.parameters.length)
    (hstack : g.stack = argsL.reverse ++ .ref b :: rest) (hW : 2 * g.monitorRoom + (rest.map fun v => v.category).sum ≤ W) (hdg : decode c.code g.pc = .ok (.invokeinterface index count, 5))
    (hpre : ∀ vm₁, s.WarmedH vm₁ → Pre ⟨T.setVm vm₁, locs, cells, slots⟩ (Value.ref b :: argsL).toArray) :
    (∃ (v : Option Value) (vm₁ : Vm) (B : Pt), s.WarmedH vm₁ ∧ Stand p l e R s m args below meth c B.U B.locs B.cells B.slots ∧ Post ⟨T.setVm vm₁, locs, cells, slots⟩ (Value.ref b :: argsL).toArray v B ∧
      ∀ target, Steps p.tables e below (B.U.setTop { g with pc := g.pc + 5, stack := v.toList ++ rest }) target → Steps p.tables e below (T.setTop g) target) ∨
    (∃ (q : Addr) (vm₁ : Vm) (B : Pt), s.WarmedH vm₁ ∧ Stand p l e R s m args below meth c B.U B.locs B.cells B.slots ∧ PostX ⟨T.setVm vm₁, locs, cells, slots⟩ (Value.ref b :: argsL).toArray q B ∧
      Steps p.tables e below (T.setTop g) ((B.U.setTop { g with stack := rest }).pushFrame (.throwing q))) := by
  obtain ⟨r0, r, hn, hrm, hstR, hsigR⟩ := Cond.declares_spec hdecl
  obtain ⟨cL, kL, r1, hcL, hkL, hiL, hfoundL, hn1⟩ := Cond.interfaceMethod_spec hface
  cases hn.symm.trans hn1
  have hr0cls : r0.cls = cL := Option.some.inj ((findClass_of_methodNamed hn).symm.trans hcL)
  obtain ⟨hnameR, hdescR⟩ := name_of_methodNamed hn hrm
  obtain ⟨mk, methM, hnamed, hmethM, -, habM⟩ := Cond.instanceMethod_spec hinst
  obtain ⟨c2, r2, m2, q1, q2, q3, q4, -⟩ := Cond.selects_spec hsel
  cases hcls.symm.trans q1
  cases hfoundL.symm.trans q2
  cases hnamed.symm.trans q3
  have hselP : selectMethod e.platform s.vm cellB.cls r0 = .method mk := by rw [Launch.admits_selectMethod X.admits]; exact q4
  have hpubM : hasFlag methM.accessFlags Acc.public_ = true := Cond.publicMethod_spec hnamed hmethM hpub
  have hway : ((cellB.cls :: s.vm.superclasses cellB.cls).any fun k => (declaredIn s.vm r.name r.desc k).any fun (_, z) => z.isPrivate || z.isStatic) = false := by
    rw [hnameR, hdescR]; exact Cond.unhidden_spec hcls hunh
  obtain ⟨c3, t3, w1, w2, w3⟩ := Cond.castable_spec hcast
  cases hcls.symm.trans w1
  cases hcL.symm.trans w2
  obtain ⟨vm₁, X₁, hstep₁⟩ := X.invokeinterface hexec hown hlink hn hrm hstR (by rw [hr0cls]; exact hkL) hiL hx (a := b) (cell := cellB) (kcell := kB) hcell
    (fun z h => by rw [h] at hobj; cases hobj) hkB (by rw [hr0cls]; exact w3) hselP hmethM hway hpubM habM (g := g) hg (argsL := argsL) (rest := rest) (hlen _ hsigR) hstack hdg
  rcases hK m meth c ⟨T.setVm vm₁, locs, cells, slots⟩ { g with stack := rest } (.invokeinterface index count) mk (Value.ref b :: argsL).toArray X₁ hg hsize hdg hW (X₁.named hnamed) (hpre vm₁ X₁.warmed) with ⟨v, B, X', hpost, hsteps⟩ | ⟨q, B, X', hpost, hsteps⟩
  · exact Or.inl ⟨v, vm₁, B, X₁.warmed, X', hpost, fun target h => hstep₁ _ fun acts => by rw [doInvoke_state]; exact hsteps.trans h⟩
  · exact Or.inr ⟨q, vm₁, B, X₁.warmed, X', hpost, hstep₁ _ fun acts => by rw [doInvoke_state]; exact hsteps⟩
theorem vx_runFW {x y : MethodName} {bytes cc : ByteArray} {maxL nL mc ms n index count : Nat} {ret : Option FieldType} {hh : List (Nat × Nat × Nat × Nat)} {ws : List Cond} {rm : Room} {Pc : Array Value → State → Prop} {Qc : Array Value → State → Outcome → State → Prop} {XC : String → State → State → Prop} {free : Addr → Prop} {Ts : List Cond} {own C : String} {cC : ClassId} {b : Addr} {As rest : List Value} {g : JFrame}
    (hat : ClassAt s C cC) (S : CallFix p m c cc nL s args Ts own) (hM : vx_Met l y ws rm Pc Qc XC mc ms free) (cw : va_CIW R s args own C index x y bytes maxL ret hh ws rm mc ms n) (hp : PreV s H C b Pc As)
    (hg : g.method = m) (hn : As.length = n) (hsize : g.locals.size = nL) (hstack : g.stack = As.reverse ++ .ref b :: rest) (hW : 2 * g.monitorRoom + (rest.map fun v => v.category).sum ≤ 8) (hdg : decode cc g.pc = .ok (.invokeinterface index count, 5)) (hf : cells + mc ≤ R.cells ∧ slots + ms ≤ R.slots) :
    vx_Run5 p l e R s m args below meth c H locs cells slots mc ms g rest (Qc (Value.ref b :: As).toArray) XC free := by
  obtain ⟨hrc, hrs, hfr, hlo, hws, hcw⟩ := cw.back
  have hini := cw.init
  have hK : vx_Back l R p e below s args y 5 8 (PreOf R mc ms Pc) (PostOf Qc mc ms free) (vx_Post XC mc ms free) := vx_backW (hh := hh) (bytes := bytes) (maxL := maxL) (ret := ret) hM hp.1 hrc hrs hfr hlo hws hcw (fun a' U hW => word_at hW (Or.inl (by first | rfl | simp [Cond.onTables, Cond.keeps, Cond.steady])) hini)
  obtain ⟨hx, hb, hml, ho, -⟩ := S
  obtain ⟨-, ⟨cellB, hcB, hoB, hclB⟩, hPc⟩ := hp
  obtain ⟨hfc, kB, hkB, -⟩ := hat
  cases hfc.symm.trans hclB
  intro T hT X
  rcases vx_callIFW X hx (C := C) (hh := hh) (bytes := bytes) (maxL := maxL) (ret := ret) ho cw.link cw.decl cw.face cw.sel cw.inst cw.pub cw.unh cw.cast cw.code cw.notMH hK (by rw [hT]; exact hcB) hoB hclB hkB hg (hsize.trans hml.symm) (argsL := As) (rest := rest) (fun sig h => hn.trans (cw.len sig h)) hstack hW (by rw [hb]; exact hdg)
    (fun vm₁ hW₁ => ⟨hf.1, hf.2, hPc (T.setVm vm₁) hT hW₁⟩) with ⟨v, vm₁, ⟨U', l2, c2, s2⟩, hW₁, X', ⟨g', mk, t, L, e1, e2, hq, h1, hL, h2, h3⟩, st⟩ | ⟨q, vm₁, ⟨U', l2, c2, s2⟩, hW₁, X', ⟨g', mk, t, L, E, ce, e1, e2, hq, hce, hcv, hcl, h1, hL, h2, h3⟩, st⟩
  · dsimp only [Pt.U, Pt.locs, Pt.cells, Pt.slots] at X' e1 e2 h1 h2 h3 st
    subst h1; subst h2; subst h3
    exact Or.inl ⟨v, (T.setVm vm₁).calling g' mk (Value.ref b :: As).toArray, t, U', L, hT, X', hL, e1, e2, hq, st⟩
  · dsimp only [Pt.U, Pt.locs, Pt.cells, Pt.slots] at X' e1 e2 h1 h2 h3 st hcl
    subst h1; subst h2; subst h3
    exact Or.inr ⟨q, (T.setVm vm₁).calling g' mk (Value.ref b :: As).toArray, t, U', L, E, ce, hT, X', hL, e1, e2, hq, hce, hcv, vx_cls hW₁ hcl, st⟩
end
/-! ===== END ===== -/
/-! ===== BEGIN .. of methods that hand back an object of the pool ===== -/
section
variable {p : Program} {l : Launch} {e : Env} {R : Room} {s : State} {m : MethodId} {args : Array Value} {below : List Frame} {meth : Method} {c : Code} {H : Heap} {locs : List Loc} {cells slots : Nat} {Q : State → Prop}
variable {mc ms : Nat} {free : Addr → Prop} {A0 A1 : Nat → Prop} {H0 : Heap} {a : Array Value} {pc : Nat} {ls : Array Slot} {st0 rest : List Value}
theorem vx_callq {S SX : Type} {post : Option Nat → S → Prop} {px : SX → Prop} {B : S → State → Prop} {BX : String → SX → State → Prop} {AX : Nat → Prop} (hr : vx_Run p l e R s m args below meth c H locs cells slots mc ms (F0 m pc ls st0) rest (va_Qq post B A1 a) (vx_X px BX AX) free) (hS : va_S A0 H0 H locs) (hA : ∀ q, q < H.size → A1 q → A0 q) (hf : ∀ q, free q → A0 q) (hAX : ∀ q, q < H.size → AX q → A0 q)
    (kx : ∀ (E : String) (ce : Cell) (q9 : Addr) (u : SX) (t : State) (H1 : Heap) (locs1 : List Loc), t.heap = H1 → s.vm.Alike t.vm → px u → BX E u t → H.size ≤ H1.size → (∀ q : Nat, q < H.size → ¬ AX q → H1[q]? = H[q]?) → va_S A0 H0 H1 locs1 → H1[q9]? = some ce → ce.vm = .none → s.vm.findClass E = some ce.cls → vx_W p l e R s m args below meth c H1 locs1 (cells + mc) (slots + ms) Q (F0 m pc ls rest) q9)
    (kk : ∀ (r : Option Nat) (u : S) (t : State) (H1 : Heap) (locs1 : List Loc), t.heap = H1 → s.vm.Alike t.vm → post r u → B u t → H.size ≤ H1.size → (∀ q : Nat, q < H.size → ¬ A1 q → H1[q]? = H[q]?) → va_S A0 H0 H1 locs1 → W p l e R s m args below meth c H1 locs1 (cells + mc) (slots + ms) Q (F0 m (pc + 3) ls (va_rf r :: rest))) : W p l e R s m args below meth c H locs cells slots Q (F0 m pc ls st0) := by
  intro T hT X
  rcases hr T hT X with ⟨v, st₀, t, T', L, h0, X', hL, e1, e2, ⟨⟨r, u, hv, hp, hb⟩, hF⟩, st⟩ | ⟨q, st₀, t, T', L, E, ce, h0, X', hL, e1, e2, ⟨u, hp, hb, hF⟩, hce, hcv, hcl, st⟩
  · cases hv
    obtain ⟨k1, k2, k3⟩ := vx_keep h0 e1 hS hA hf hL hF
    obtain ⟨t2, a1, b1⟩ := kk r u t T'.heap (locs ++ L) e1.symm (by rw [← e2]; exact X'.warmed.alike) hp hb k1 k2 k3 T' rfl X'
    exact ⟨t2, st t2 a1, b1⟩
  · obtain ⟨k1, k2, k3⟩ := vx_keep h0 e1 hS hAX hf hL hF
    obtain ⟨t2, a1, b1⟩ := kx E ce q u t T'.heap (locs ++ L) e1.symm (by rw [← e2]; exact X'.warmed.alike) hp hb k1 k2 k3 (by rw [e1]; exact hce) hcv hcl T' rfl X'
    exact ⟨t2, st.trans a1, b1⟩
end
/-! ===== END ===== -/
/-! ===== BEGIN .. a constant ===== -/
section
variable {p : Program} {l : Launch} {e : Env} {R : Room} {s : State} {m : MethodId} {args : Array Value} {below : List Frame} {meth : Method} {c : Code} {H : Heap} {locs : List Loc} {cells slots : Nat} {Q : State → Prop}
variable {mc ms : Nat} {free : Addr → Prop} {A0 A1 : Nat → Prop} {H0 : Heap} {a : Array Value} {pc : Nat} {ls : Array Slot} {st0 rest : List Value}
theorem vx_calle {ad : Nat → Nat} {S SX : Type} {post : Option Nat → S → Prop} {px : SX → Prop} {B : S → State → Prop} {BX : String → SX → State → Prop} {AX : Nat → Prop} (hr : vx_Run p l e R s m args below meth c H locs cells slots mc ms (F0 m pc ls st0) rest (va_Qe ad post B A1 a) (vx_X px BX AX) free) (hS : va_S A0 H0 H locs) (hA : ∀ q, q < H.size → A1 q → A0 q) (hf : ∀ q, free q → A0 q) (hAX : ∀ q, q < H.size → AX q → A0 q)
    (kx : ∀ (E : String) (ce : Cell) (q9 : Addr) (u : SX) (t : State) (H1 : Heap) (locs1 : List Loc), t.heap = H1 → s.vm.Alike t.vm → px u → BX E u t → H.size ≤ H1.size → (∀ q : Nat, q < H.size → ¬ AX q → H1[q]? = H[q]?) → va_S A0 H0 H1 locs1 → H1[q9]? = some ce → ce.vm = .none → s.vm.findClass E = some ce.cls → vx_W p l e R s m args below meth c H1 locs1 (cells + mc) (slots + ms) Q (F0 m pc ls rest) q9)
    (kk : ∀ (r : Option Nat) (u : S) (t : State) (H1 : Heap) (locs1 : List Loc), t.heap = H1 → s.vm.Alike t.vm → post r u → B u t → H.size ≤ H1.size → (∀ q : Nat, q < H.size → ¬ A1 q → H1[q]? = H[q]?) → va_S A0 H0 H1 locs1 → W p l e R s m args below meth c H1 locs1 (cells + mc) (slots + ms) Q (F0 m (pc + 3) ls (va_re ad r :: rest))) : W p l e R s m args below meth c H locs cells slots Q (F0 m pc ls st0) := by
  intro T hT X
  rcases hr T hT X with ⟨v, st₀, t, T', L, h0, X', hL, e1, e2, ⟨⟨r, u, hv, hp, hb⟩, hF⟩, st⟩ | ⟨q, st₀, t, T', L, E, ce, h0, X', hL, e1, e2, ⟨u, hp, hb, hF⟩, hce, hcv, hcl, st⟩
  · cases hv
    obtain ⟨k1, k2, k3⟩ := vx_keep h0 e1 hS hA hf hL hF
    obtain ⟨t2, a1, b1⟩ := kk r u t T'.heap (locs ++ L) e1.symm (by rw [← e2]; exact X'.warmed.alike) hp hb k1 k2 k3 T' rfl X'
    exact ⟨t2, st t2 a1, b1⟩
  · obtain ⟨k1, k2, k3⟩ := vx_keep h0 e1 hS hAX hf hL hF
    obtain ⟨t2, a1, b1⟩ := kx E ce q u t T'.heap (locs ++ L) e1.symm (by rw [← e2]; exact X'.warmed.alike) hp hb k1 k2 k3 (by rw [e1]; exact hce) hcv hcl T' rfl X'
    exact ⟨t2, st.trans a1, b1⟩
end
/-! ===== END ===== -/
/-! ===== BEGIN .. by an interface, an object ===== -/
section
variable {p : Program} {l : Launch} {e : Env} {R : Room} {s : State} {m : MethodId} {args : Array Value} {below : List Frame} {meth : Method} {c : Code} {H : Heap} {locs : List Loc} {cells slots : Nat} {Q : State → Prop}
variable {mc ms : Nat} {free : Addr → Prop} {A0 A1 : Nat → Prop} {H0 : Heap} {a : Array Value} {pc : Nat} {ls : Array Slot} {st0 rest : List Value}
theorem vx_callFq {S SX : Type} {post : Option Nat → S → Prop} {px : SX → Prop} {B : S → State → Prop} {BX : String → SX → State → Prop} {AX : Nat → Prop} (hr : vx_Run5 p l e R s m args below meth c H locs cells slots mc ms (F0 m pc ls st0) rest (va_Qq post B A1 a) (vx_X px BX AX) free) (hS : va_S A0 H0 H locs) (hA : ∀ q, q < H.size → A1 q → A0 q) (hf : ∀ q, free q → A0 q) (hAX : ∀ q, q < H.size → AX q → A0 q)
    (kx : ∀ (E : String) (ce : Cell) (q9 : Addr) (u : SX) (t : State) (H1 : Heap) (locs1 : List Loc), t.heap = H1 → s.vm.Alike t.vm → px u → BX E u t → H.size ≤ H1.size → (∀ q : Nat, q < H.size → ¬ AX q → H1[q]? = H[q]?) → va_S A0 H0 H1 locs1 → H1[q9]? = some ce → ce.vm = .none → s.vm.findClass E = some ce.cls → vx_W p l e R s m args below meth c H1 locs1 (cells + mc) (slots + ms) Q (F0 m pc ls rest) q9)
    (kk : ∀ (r : Option Nat) (u : S) (t : State) (H1 : Heap) (locs1 : List Loc), t.heap = H1 → s.vm.Alike t.vm → post r u → B u t → H.size ≤ H1.size → (∀ q : Nat, q < H.size → ¬ A1 q → H1[q]? = H[q]?) → va_S A0 H0 H1 locs1 → W p l e R s m args below meth c H1 locs1 (cells + mc) (slots + ms) Q (F0 m (pc + 5) ls (va_rf r :: rest))) : W p l e R s m args below meth c H locs cells slots Q (F0 m pc ls st0) := by
  intro T hT X
  rcases hr T hT X with ⟨v, st₀, t, T', L, h0, X', hL, e1, e2, ⟨⟨r, u, hv, hp, hb⟩, hF⟩, st⟩ | ⟨q, st₀, t, T', L, E, ce, h0, X', hL, e1, e2, ⟨u, hp, hb, hF⟩, hce, hcv, hcl, st⟩
  · cases hv
    obtain ⟨k1, k2, k3⟩ := vx_keep h0 e1 hS hA hf hL hF
    obtain ⟨t2, a1, b1⟩ := kk r u t T'.heap (locs ++ L) e1.symm (by rw [← e2]; exact X'.warmed.alike) hp hb k1 k2 k3 T' rfl X'
    exact ⟨t2, st t2 a1, b1⟩
  · obtain ⟨k1, k2, k3⟩ := vx_keep h0 e1 hS hAX hf hL hF
    obtain ⟨t2, a1, b1⟩ := kx E ce q u t T'.heap (locs ++ L) e1.symm (by rw [← e2]; exact X'.warmed.alike) hp hb k1 k2 k3 (by rw [e1]; exact hce) hcv hcl T' rfl X'
    exact ⟨t2, st.trans a1, b1⟩
end
/-! ===== END ===== -/
/-! ===== BEGIN .. by an interface, a constant ===== -/
section
variable {p : Program} {l : Launch} {e : Env} {R : Room} {s : State} {m : MethodId} {args : Array Value} {below : List Frame} {meth : Method} {c : Code} {H : Heap} {locs : List Loc} {cells slots : Nat} {Q : State → Prop}
variable {mc ms : Nat} {free : Addr → Prop} {A0 A1 : Nat → Prop} {H0 : Heap} {a : Array Value} {pc : Nat} {ls : Array Slot} {st0 rest : List Value}
theorem vx_callFe {ad : Nat → Nat} {S SX : Type} {post : Option Nat → S → Prop} {px : SX → Prop} {B : S → State → Prop} {BX : String → SX → State → Prop} {AX : Nat → Prop} (hr : vx_Run5 p l e R s m args below meth c H locs cells slots mc ms (F0 m pc ls st0) rest (va_Qe ad post B A1 a) (vx_X px BX AX) free) (hS : va_S A0 H0 H locs) (hA : ∀ q, q < H.size → A1 q → A0 q) (hf : ∀ q, free q → A0 q) (hAX : ∀ q, q < H.size → AX q → A0 q)
    (kx : ∀ (E : String) (ce : Cell) (q9 : Addr) (u : SX) (t : State) (H1 : Heap) (locs1 : List Loc), t.heap = H1 → s.vm.Alike t.vm → px u → BX E u t → H.size ≤ H1.size → (∀ q : Nat, q < H.size → ¬ AX q → H1[q]? = H[q]?) → va_S A0 H0 H1 locs1 → H1[q9]? = some ce → ce.vm = .none → s.vm.findClass E = some ce.cls → vx_W p l e R s m args below meth c H1 locs1 (cells + mc) (slots + ms) Q (F0 m pc ls rest) q9)
    (kk : ∀ (r : Option Nat) (u : S) (t : State) (H1 : Heap) (locs1 : List Loc), t.heap = H1 → s.vm.Alike t.vm → post r u → B u t → H.size ≤ H1.size → (∀ q : Nat, q < H.size → ¬ A1 q → H1[q]? = H[q]?) → va_S A0 H0 H1 locs1 → W p l e R s m args below meth c H1 locs1 (cells + mc) (slots + ms) Q (F0 m (pc + 5) ls (va_re ad r :: rest))) : W p l e R s m args below meth c H locs cells slots Q (F0 m pc ls st0) := by
  intro T hT X
  rcases hr T hT X with ⟨v, st₀, t, T', L, h0, X', hL, e1, e2, ⟨⟨r, u, hv, hp, hb⟩, hF⟩, st⟩ | ⟨q, st₀, t, T', L, E, ce, h0, X', hL, e1, e2, ⟨u, hp, hb, hF⟩, hce, hcv, hcl, st⟩
  · cases hv
    obtain ⟨k1, k2, k3⟩ := vx_keep h0 e1 hS hA hf hL hF
    obtain ⟨t2, a1, b1⟩ := kk r u t T'.heap (locs ++ L) e1.symm (by rw [← e2]; exact X'.warmed.alike) hp hb k1 k2 k3 T' rfl X'
    exact ⟨t2, st t2 a1, b1⟩
  · obtain ⟨k1, k2, k3⟩ := vx_keep h0 e1 hS hAX hf hL hF
    obtain ⟨t2, a1, b1⟩ := kx E ce q u t T'.heap (locs ++ L) e1.symm (by rw [← e2]; exact X'.warmed.alike) hp hb k1 k2 k3 (by rw [e1]; exact hce) hcv hcl T' rfl X'
    exact ⟨t2, st.trans a1, b1⟩
end
/-! ===== END ===== -/
/-! ===== BEGIN what the machine throws by itself: null at a field, at athrow ===== -/
section VXM2
variable {p : Program} {l : Launch} {e : Env} {R : Room} {s : State} {m : MethodId} {args : Array Value} {below : List Frame} {meth : Method} {c : Code} {H : Heap} {locs : List Loc} {cells slots : Nat}
variable {Q : State → Prop} {cc : ByteArray} {pc : Nat} {ls : Array Slot} {rest : List Value}
theorem vx_getfN {D cl tys} {own ref C : String} {T : u_T} {N ci index : Nat} {Ts : List Cond} (hexec : p.tables.exec = Jvm.exec) (hb : c.code = cc) (hts : ∀ w ∈ Ts, w.before args s = true) (hin : ∀ w ∈ u_ws C T N, w ∈ Ts) (hown : s.vm.findClass own = some m.cls) (hK : va_K D cl tys s) (hc : cl[ci]? = some (C, T, N)) (k : Nat) (hk : k < N) (hlink : (Cond.fieldLink own index ref (T k).2.1 (T k).2.2.1).before args s = true) (hsame : ∀ x, s.fieldFound? (T k).1 (T k).2.1 (T k).2.2.1 = some x → s.fieldFound? ref (T k).2.1 (T k).2.2.1 = some x) (hdg : decode cc pc = .ok (.getfield index, 3)) (kk : vx_NoteN p l e R s m args below meth c H locs cells slots Q (F0 m pc ls rest)) : W p l e R s m args below meth c H locs cells slots Q (F0 m pc ls (.null :: rest)) := by
  obtain ⟨hS, hfc, kC, hkC, -⟩ := hK.1 ci _ hc
  obtain ⟨cf, kf, fi, f, hi, -⟩ := hS k hk
  intro U hU X
  obtain ⟨vm', X1, st1⟩ := X.getfieldNull hexec hown hlink (hsame _ hi) (u_facts hfc hkC (u_lays hts hin hk) hi).1 (g := F0 m pc ls (.null :: rest)) rfl (rest := rest) rfl (by rw [hb]; exact hdg)
  obtain ⟨t, st, q⟩ := kk (U.setVm vm') hU X1
  exact ⟨t, st1 t st, q⟩
theorem vx_getfNN {D cl tys} {own ref C host : String} {T : u_T} {N ci index : Nat} {Ts : List Cond} (hexec : p.tables.exec = Jvm.exec) (hb : c.code = cc) (hts : ∀ w ∈ Ts, w.before args s = true) (hin : ∀ w ∈ u_ws C T N, w ∈ Ts) (hown : s.vm.findClass own = some m.cls) (hK : va_K D cl tys s) (hc : cl[ci]? = some (C, T, N)) (k : Nat) (hk : k < N) (hlink : (Cond.fieldLinkNest own index ref (T k).2.1 (T k).2.2.1 host).before args s = true) (hsame : ∀ x, s.fieldFound? (T k).1 (T k).2.1 (T k).2.2.1 = some x → s.fieldFound? ref (T k).2.1 (T k).2.2.1 = some x) (hdg : decode cc pc = .ok (.getfield index, 3)) (kk : vx_NoteN p l e R s m args below meth c H locs cells slots Q (F0 m pc ls rest)) : W p l e R s m args below meth c H locs cells slots Q (F0 m pc ls (.null :: rest)) := by
  obtain ⟨hS, hfc, kC, hkC, -⟩ := hK.1 ci _ hc
  obtain ⟨cf, kf, fi, f, hi, -⟩ := hS k hk
  intro U hU X
  obtain ⟨vm', X1, st1⟩ := X.getfieldNullNest hexec hown hlink (hsame _ hi) (u_facts hfc hkC (u_lays hts hin hk) hi).1 (g := F0 m pc ls (.null :: rest)) rfl (rest := rest) rfl (by rw [hb]; exact hdg)
  obtain ⟨t, st, q⟩ := kk (U.setVm vm') hU X1
  exact ⟨t, st1 t st, q⟩
theorem vx_putfN {D cl tys} {own ref C : String} {T : u_T} {N ci index : Nat} {Ts : List Cond} (hexec : p.tables.exec = Jvm.exec) (hb : c.code = cc) (hts : ∀ w ∈ Ts, w.before args s = true) (hin : ∀ w ∈ u_ws C T N, w ∈ Ts) (hown : s.vm.findClass own = some m.cls) (hK : va_K D cl tys s) (hc : cl[ci]? = some (C, T, N)) (k : Nat) (hk : k < N) (hlink : (Cond.fieldLink own index ref (T k).2.1 (T k).2.2.1).before args s = true) (hsame : ∀ x, s.fieldFound? (T k).1 (T k).2.1 (T k).2.2.1 = some x → s.fieldFound? ref (T k).2.1 (T k).2.2.1 = some x) (hfin : (T k).2.2.2 = false) {v : Value} (hdg : decode cc pc = .ok (.putfield index, 3)) (kk : vx_NoteN p l e R s m args below meth c H locs cells slots Q (F0 m pc ls rest)) : W p l e R s m args below meth c H locs cells slots Q (F0 m pc ls (v :: .null :: rest)) := by
  obtain ⟨hS, hfc, kC, hkC, -⟩ := hK.1 ci _ hc
  obtain ⟨cf, kf, fi, f, hi, -⟩ := hS k hk
  have hlay := hts _ (hin _ (u_in_lay hk))
  unfold u_lay at hlay
  rw [if_neg (by rw [hfin]; decide)] at hlay
  obtain ⟨c9, k9, cf9, kf9, fi9, f9, -, -, hi9, hst9, hnf9, -⟩ := Cond.lays_spec hlay
  cases hi.symm.trans hi9
  intro U hU X
  obtain ⟨vm', X1, st1⟩ := X.putfieldNull hexec hown hlink (hsame _ hi) hst9 hnf9 (g := F0 m pc ls (v :: .null :: rest)) rfl (v := v) (rest := rest) rfl (by rw [hb]; exact hdg)
  obtain ⟨t, st, q⟩ := kk (U.setVm vm') hU X1
  exact ⟨t, st1 t st, q⟩
theorem vx_putfNN {D cl tys} {own ref C host : String} {T : u_T} {N ci index : Nat} {Ts : List Cond} (hexec : p.tables.exec = Jvm.exec) (hb : c.code = cc) (hts : ∀ w ∈ Ts, w.before args s = true) (hin : ∀ w ∈ u_ws C T N, w ∈ Ts) (hown : s.vm.findClass own = some m.cls) (hK : va_K D cl tys s) (hc : cl[ci]? = some (C, T, N)) (k : Nat) (hk : k < N) (hlink : (Cond.fieldLinkNest own index ref (T k).2.1 (T k).2.2.1 host).before args s = true) (hsame : ∀ x, s.fieldFound? (T k).1 (T k).2.1 (T k).2.2.1 = some x → s.fieldFound? ref (T k).2.1 (T k).2.2.1 = some x) (hfin : (T k).2.2.2 = false) {v : Value} (hdg : decode cc pc = .ok (.putfield index, 3)) (kk : vx_NoteN p l e R s m args below meth c H locs cells slots Q (F0 m pc ls rest)) : W p l e R s m args below meth c H locs cells slots Q (F0 m pc ls (v :: .null :: rest)) := by
  obtain ⟨hS, hfc, kC, hkC, -⟩ := hK.1 ci _ hc
  obtain ⟨cf, kf, fi, f, hi, -⟩ := hS k hk
  have hlay := hts _ (hin _ (u_in_lay hk))
  unfold u_lay at hlay
  rw [if_neg (by rw [hfin]; decide)] at hlay
  obtain ⟨c9, k9, cf9, kf9, fi9, f9, -, -, hi9, hst9, hnf9, -⟩ := Cond.lays_spec hlay
  cases hi.symm.trans hi9
  intro U hU X
  obtain ⟨vm', X1, st1⟩ := X.putfieldNullNest hexec hown hlink (hsame _ hi) hst9 hnf9 (g := F0 m pc ls (v :: .null :: rest)) rfl (v := v) (rest := rest) rfl (by rw [hb]; exact hdg)
  obtain ⟨t, st, q⟩ := kk (U.setVm vm') hU X1
  exact ⟨t, st1 t st, q⟩
theorem vx_athrowN (hexec : p.tables.exec = Jvm.exec) (hb : c.code = cc) (hdg : decode cc pc = .ok (.athrow, 1)) (k : vx_NoteN p l e R s m args below meth c H locs cells slots Q (F0 m pc ls rest)) : W p l e R s m args below meth c H locs cells slots Q (F0 m pc ls (.null :: rest)) := by
  intro T hT X
  obtain ⟨t, st, q⟩ := k T hT X
  exact ⟨t, X.athrowNull hexec (g := F0 m pc ls (.null :: rest)) rfl (rest := rest) rfl (by rw [hb]; exact hdg) t st, q⟩
end VXM2
/-! ===== END ===== -/
end
section
-- ===== PART A: goes FIRST, ahead of the names: the tables' words, and 'selects' of the private methods out of them =====
/-- a private method of a class that the tables say can be made, by its rows of tables_1 -/
def lw_okq (q : MethodName × Nat) : Prop := (q.1.cls ≠ "java/lang/invoke/MethodHandle" ∧ q.1.cls ≠ "java/lang/invoke/VarHandle") ∧ Cond.instantiable q.1.cls q.2 ∈ tables_1 ∧ Cond.privateMethod q.1 ∈ tables_1 ∧ Cond.instanceMethod q.1 ∈ tables_1
theorem lw_p0 : lw_okq (⟨"RidgeBureau", "groupPersons", "(I)V"⟩, 12) := ⟨⟨by decide +kernel, by decide +kernel⟩, List.mem_of_getElem? (i := 27) (by decide +kernel), List.mem_of_getElem? (i := 456) (by decide +kernel), List.mem_of_getElem? (i := 457) (by decide +kernel)⟩
theorem lw_p1 : lw_okq (⟨"RidgeBureau", "alikeFingers", "(III)I"⟩, 12) := ⟨⟨by decide +kernel, by decide +kernel⟩, List.mem_of_getElem? (i := 27) (by decide +kernel), List.mem_of_getElem? (i := 472) (by decide +kernel), List.mem_of_getElem? (i := 473) (by decide +kernel)⟩
theorem lw_p2 : lw_okq (⟨"RidgeBureau", "arePrintsAlike", "(III)Z"⟩, 12) := ⟨⟨by decide +kernel, by decide +kernel⟩, List.mem_of_getElem? (i := 27) (by decide +kernel), List.mem_of_getElem? (i := 487) (by decide +kernel), List.mem_of_getElem? (i := 488) (by decide +kernel)⟩
theorem lw_p3 : lw_okq (⟨"RidgeBureau$Lays", "recall", "(I)V"⟩, 12) := ⟨⟨by decide +kernel, by decide +kernel⟩, List.mem_of_getElem? (i := 325) (by decide +kernel), List.mem_of_getElem? (i := 503) (by decide +kernel), List.mem_of_getElem? (i := 504) (by decide +kernel)⟩
theorem lw_p4 : lw_okq (⟨"RidgeBureau$Lays", "take", "(IIIII)V"⟩, 12) := ⟨⟨by decide +kernel, by decide +kernel⟩, List.mem_of_getElem? (i := 325) (by decide +kernel), List.mem_of_getElem? (i := 507) (by decide +kernel), List.mem_of_getElem? (i := 508) (by decide +kernel)⟩
theorem lw_p5 : lw_okq (⟨"RidgeBureau$Lays", "tryLay", "(LRidgeBureau$Sheet;IIII)V"⟩, 12) := ⟨⟨by decide +kernel, by decide +kernel⟩, List.mem_of_getElem? (i := 325) (by decide +kernel), List.mem_of_getElem? (i := 535) (by decide +kernel), List.mem_of_getElem? (i := 536) (by decide +kernel)⟩
theorem lw_p6 : lw_okq (⟨"RidgeBureau$Lays", "linkMates", "(LRidgeBureau$Sheet;III)I"⟩, 12) := ⟨⟨by decide +kernel, by decide +kernel⟩, List.mem_of_getElem? (i := 325) (by decide +kernel), List.mem_of_getElem? (i := 539) (by decide +kernel), List.mem_of_getElem? (i := 540) (by decide +kernel)⟩
theorem lw_p7 : lw_okq (⟨"RidgeBureau$Lays", "pair", "(II)Z"⟩, 12) := ⟨⟨by decide +kernel, by decide +kernel⟩, List.mem_of_getElem? (i := 325) (by decide +kernel), List.mem_of_getElem? (i := 546) (by decide +kernel), List.mem_of_getElem? (i := 547) (by decide +kernel)⟩
theorem lw_p8 : lw_okq (⟨"RidgeBureau$Lays", "countAgainst", "(LRidgeBureau$Sheet;II)I"⟩, 12) := ⟨⟨by decide +kernel, by decide +kernel⟩, List.mem_of_getElem? (i := 325) (by decide +kernel), List.mem_of_getElem? (i := 550) (by decide +kernel), List.mem_of_getElem? (i := 551) (by decide +kernel)⟩
theorem lw_p9 : lw_okq (⟨"RidgeBureau$Lays", "isBetter", "(IIIII)Z"⟩, 12) := ⟨⟨by decide +kernel, by decide +kernel⟩, List.mem_of_getElem? (i := 325) (by decide +kernel), List.mem_of_getElem? (i := 558) (by decide +kernel), List.mem_of_getElem? (i := 559) (by decide +kernel)⟩
theorem lw_p10 : lw_okq (⟨"RidgeBureau$Lays", "keep", "(I)V"⟩, 12) := ⟨⟨by decide +kernel, by decide +kernel⟩, List.mem_of_getElem? (i := 325) (by decide +kernel), List.mem_of_getElem? (i := 562) (by decide +kernel), List.mem_of_getElem? (i := 563) (by decide +kernel)⟩
theorem lw_p11 : lw_okq (⟨"RidgeBureau$RuleText", "holds", "(ILRidgeBureau$Facts;)Z"⟩, 8) := ⟨⟨by decide +kernel, by decide +kernel⟩, List.mem_of_getElem? (i := 85) (by decide +kernel), List.mem_of_getElem? (i := 578) (by decide +kernel), List.mem_of_getElem? (i := 579) (by decide +kernel)⟩
theorem lw_p12 : lw_okq (⟨"RidgeBureau", "joinPersons", "(II)V"⟩, 12) := ⟨⟨by decide +kernel, by decide +kernel⟩, List.mem_of_getElem? (i := 27) (by decide +kernel), List.mem_of_getElem? (i := 590) (by decide +kernel), List.mem_of_getElem? (i := 591) (by decide +kernel)⟩
theorem lw_p13 : lw_okq (⟨"RidgeBureau", "hasSecondName", "(I)Z"⟩, 12) := ⟨⟨by decide +kernel, by decide +kernel⟩, List.mem_of_getElem? (i := 27) (by decide +kernel), List.mem_of_getElem? (i := 596) (by decide +kernel), List.mem_of_getElem? (i := 597) (by decide +kernel)⟩
theorem lw_p14 : lw_okq (⟨"RidgeBureau", "firstRow", "()I"⟩, 12) := ⟨⟨by decide +kernel, by decide +kernel⟩, List.mem_of_getElem? (i := 27) (by decide +kernel), List.mem_of_getElem? (i := 604) (by decide +kernel), List.mem_of_getElem? (i := 605) (by decide +kernel)⟩
theorem lw_p15 : lw_okq (⟨"RidgeBureau$Table", "hasCell", "(II)Z"⟩, 4) := ⟨⟨by decide +kernel, by decide +kernel⟩, List.mem_of_getElem? (i := 119) (by decide +kernel), List.mem_of_getElem? (i := 612) (by decide +kernel), List.mem_of_getElem? (i := 613) (by decide +kernel)⟩
def lw_privs_1 : List (MethodName × Nat) := [(⟨"RidgeBureau", "groupPersons", "(I)V"⟩, 12), (⟨"RidgeBureau", "alikeFingers", "(III)I"⟩, 12), (⟨"RidgeBureau", "arePrintsAlike", "(III)Z"⟩, 12), (⟨"RidgeBureau$Lays", "recall", "(I)V"⟩, 12), (⟨"RidgeBureau$Lays", "take", "(IIIII)V"⟩, 12), (⟨"RidgeBureau$Lays", "tryLay", "(LRidgeBureau$Sheet;IIII)V"⟩, 12), (⟨"RidgeBureau$Lays", "linkMates", "(LRidgeBureau$Sheet;III)I"⟩, 12), (⟨"RidgeBureau$Lays", "pair", "(II)Z"⟩, 12), (⟨"RidgeBureau$Lays", "countAgainst", "(LRidgeBureau$Sheet;II)I"⟩, 12), (⟨"RidgeBureau$Lays", "isBetter", "(IIIII)Z"⟩, 12), (⟨"RidgeBureau$Lays", "keep", "(I)V"⟩, 12), (⟨"RidgeBureau$RuleText", "holds", "(ILRidgeBureau$Facts;)Z"⟩, 8), (⟨"RidgeBureau", "joinPersons", "(II)V"⟩, 12), (⟨"RidgeBureau", "hasSecondName", "(I)Z"⟩, 12), (⟨"RidgeBureau", "firstRow", "()I"⟩, 12), (⟨"RidgeBureau$Table", "hasCell", "(II)Z"⟩, 4)]
theorem lw_r1 : ∀ q ∈ lw_privs_1, lw_okq q := List.forall_mem_cons.mpr ⟨lw_p0, List.forall_mem_cons.mpr ⟨lw_p1, List.forall_mem_cons.mpr ⟨lw_p2, List.forall_mem_cons.mpr ⟨lw_p3, List.forall_mem_cons.mpr ⟨lw_p4, List.forall_mem_cons.mpr ⟨lw_p5, List.forall_mem_cons.mpr ⟨lw_p6, List.forall_mem_cons.mpr ⟨lw_p7, List.forall_mem_cons.mpr ⟨lw_p8, List.forall_mem_cons.mpr ⟨lw_p9, List.forall_mem_cons.mpr ⟨lw_p10, List.forall_mem_cons.mpr ⟨lw_p11, List.forall_mem_cons.mpr ⟨lw_p12, List.forall_mem_cons.mpr ⟨lw_p13, List.forall_mem_cons.mpr ⟨lw_p14, List.forall_mem_cons.mpr ⟨lw_p15, fun _ h => absurd h List.not_mem_nil⟩⟩⟩⟩⟩⟩⟩⟩⟩⟩⟩⟩⟩⟩⟩⟩
theorem lw_p16 : lw_okq (⟨"java/lang/Throwable", "fillInStackTrace", "(I)Ljava/lang/Throwable;"⟩, 6) := ⟨⟨by decide +kernel, by decide +kernel⟩, List.mem_of_getElem? (i := 739) (by decide +kernel), List.mem_of_getElem? (i := 737) (by decide +kernel), List.mem_of_getElem? (i := 738) (by decide +kernel)⟩
theorem lw_p17 : lw_okq (⟨"RidgeBureau$Print", "findPattern", "()I"⟩, 5) := ⟨⟨by decide +kernel, by decide +kernel⟩, List.mem_of_getElem? (i := 138) (by decide +kernel), List.mem_of_getElem? (i := 789) (by decide +kernel), List.mem_of_getElem? (i := 790) (by decide +kernel)⟩
theorem lw_p18 : lw_okq (⟨"RidgeBureau$Print", "direction", "(II)I"⟩, 5) := ⟨⟨by decide +kernel, by decide +kernel⟩, List.mem_of_getElem? (i := 138) (by decide +kernel), List.mem_of_getElem? (i := 797) (by decide +kernel), List.mem_of_getElem? (i := 798) (by decide +kernel)⟩
theorem lw_p19 : lw_okq (⟨"RidgeBureau$Print", "countRidges", "()I"⟩, 5) := ⟨⟨by decide +kernel, by decide +kernel⟩, List.mem_of_getElem? (i := 138) (by decide +kernel), List.mem_of_getElem? (i := 808) (by decide +kernel), List.mem_of_getElem? (i := 809) (by decide +kernel)⟩
theorem lw_p20 : lw_okq (⟨"RidgeBureau$Print", "findClass", "()I"⟩, 5) := ⟨⟨by decide +kernel, by decide +kernel⟩, List.mem_of_getElem? (i := 138) (by decide +kernel), List.mem_of_getElem? (i := 821) (by decide +kernel), List.mem_of_getElem? (i := 822) (by decide +kernel)⟩
theorem lw_p21 : lw_okq (⟨"RidgeBureau", "needPrint", "(I)V"⟩, 12) := ⟨⟨by decide +kernel, by decide +kernel⟩, List.mem_of_getElem? (i := 27) (by decide +kernel), List.mem_of_getElem? (i := 834) (by decide +kernel), List.mem_of_getElem? (i := 835) (by decide +kernel)⟩
theorem lw_p22 : lw_okq (⟨"RidgeBureau", "needMark", "(I)V"⟩, 12) := ⟨⟨by decide +kernel, by decide +kernel⟩, List.mem_of_getElem? (i := 27) (by decide +kernel), List.mem_of_getElem? (i := 918) (by decide +kernel), List.mem_of_getElem? (i := 919) (by decide +kernel)⟩
theorem lw_p23 : lw_okq (⟨"RidgeBureau", "needCard", "(I)V"⟩, 12) := ⟨⟨by decide +kernel, by decide +kernel⟩, List.mem_of_getElem? (i := 27) (by decide +kernel), List.mem_of_getElem? (i := 983) (by decide +kernel), List.mem_of_getElem? (i := 984) (by decide +kernel)⟩
theorem lw_p24 : lw_okq (⟨"RidgeBureau", "sharesReading", "(II)Z"⟩, 12) := ⟨⟨by decide +kernel, by decide +kernel⟩, List.mem_of_getElem? (i := 27) (by decide +kernel), List.mem_of_getElem? (i := 1062) (by decide +kernel), List.mem_of_getElem? (i := 1063) (by decide +kernel)⟩
theorem lw_p25 : lw_okq (⟨"RidgeBureau$Tape", "addToken", "(II)V"⟩, 8) := ⟨⟨by decide +kernel, by decide +kernel⟩, List.mem_of_getElem? (i := 35) (by decide +kernel), List.mem_of_getElem? (i := 1091) (by decide +kernel), List.mem_of_getElem? (i := 1092) (by decide +kernel)⟩
theorem lw_p26 : lw_okq (⟨"RidgeBureau$Tape", "wordToken", "(II)I"⟩, 8) := ⟨⟨by decide +kernel, by decide +kernel⟩, List.mem_of_getElem? (i := 35) (by decide +kernel), List.mem_of_getElem? (i := 1095) (by decide +kernel), List.mem_of_getElem? (i := 1096) (by decide +kernel)⟩
theorem lw_p27 : lw_okq (⟨"RidgeBureau$Tape", "isWordAt", "(III)Z"⟩, 8) := ⟨⟨by decide +kernel, by decide +kernel⟩, List.mem_of_getElem? (i := 35) (by decide +kernel), List.mem_of_getElem? (i := 1148) (by decide +kernel), List.mem_of_getElem? (i := 1149) (by decide +kernel)⟩
theorem lw_p28 : lw_okq (⟨"RidgeBureau$Tape", "valueOf", "(II)I"⟩, 8) := ⟨⟨by decide +kernel, by decide +kernel⟩, List.mem_of_getElem? (i := 35) (by decide +kernel), List.mem_of_getElem? (i := 1152) (by decide +kernel), List.mem_of_getElem? (i := 1153) (by decide +kernel)⟩
theorem lw_p29 : lw_okq (⟨"RidgeBureau$RuleText", "readRule", "(LRidgeBureau$Tape;)Z"⟩, 8) := ⟨⟨by decide +kernel, by decide +kernel⟩, List.mem_of_getElem? (i := 85) (by decide +kernel), List.mem_of_getElem? (i := 1160) (by decide +kernel), List.mem_of_getElem? (i := 1161) (by decide +kernel)⟩
theorem lw_p30 : lw_okq (⟨"RidgeBureau$RuleText", "readAny", "(LRidgeBureau$Tape;I)Z"⟩, 8) := ⟨⟨by decide +kernel, by decide +kernel⟩, List.mem_of_getElem? (i := 85) (by decide +kernel), List.mem_of_getElem? (i := 1181) (by decide +kernel), List.mem_of_getElem? (i := 1182) (by decide +kernel)⟩
theorem lw_p31 : lw_okq (⟨"RidgeBureau$RuleText", "readAll", "(LRidgeBureau$Tape;I)Z"⟩, 8) := ⟨⟨by decide +kernel, by decide +kernel⟩, List.mem_of_getElem? (i := 85) (by decide +kernel), List.mem_of_getElem? (i := 1185) (by decide +kernel), List.mem_of_getElem? (i := 1186) (by decide +kernel)⟩
def lw_privs_2 : List (MethodName × Nat) := [(⟨"java/lang/Throwable", "fillInStackTrace", "(I)Ljava/lang/Throwable;"⟩, 6), (⟨"RidgeBureau$Print", "findPattern", "()I"⟩, 5), (⟨"RidgeBureau$Print", "direction", "(II)I"⟩, 5), (⟨"RidgeBureau$Print", "countRidges", "()I"⟩, 5), (⟨"RidgeBureau$Print", "findClass", "()I"⟩, 5), (⟨"RidgeBureau", "needPrint", "(I)V"⟩, 12), (⟨"RidgeBureau", "needMark", "(I)V"⟩, 12), (⟨"RidgeBureau", "needCard", "(I)V"⟩, 12), (⟨"RidgeBureau", "sharesReading", "(II)Z"⟩, 12), (⟨"RidgeBureau$Tape", "addToken", "(II)V"⟩, 8), (⟨"RidgeBureau$Tape", "wordToken", "(II)I"⟩, 8), (⟨"RidgeBureau$Tape", "isWordAt", "(III)Z"⟩, 8), (⟨"RidgeBureau$Tape", "valueOf", "(II)I"⟩, 8), (⟨"RidgeBureau$RuleText", "readRule", "(LRidgeBureau$Tape;)Z"⟩, 8), (⟨"RidgeBureau$RuleText", "readAny", "(LRidgeBureau$Tape;I)Z"⟩, 8), (⟨"RidgeBureau$RuleText", "readAll", "(LRidgeBureau$Tape;I)Z"⟩, 8)]
theorem lw_r2 : ∀ q ∈ lw_privs_2, lw_okq q := List.forall_mem_cons.mpr ⟨lw_p16, List.forall_mem_cons.mpr ⟨lw_p17, List.forall_mem_cons.mpr ⟨lw_p18, List.forall_mem_cons.mpr ⟨lw_p19, List.forall_mem_cons.mpr ⟨lw_p20, List.forall_mem_cons.mpr ⟨lw_p21, List.forall_mem_cons.mpr ⟨lw_p22, List.forall_mem_cons.mpr ⟨lw_p23, List.forall_mem_cons.mpr ⟨lw_p24, List.forall_mem_cons.mpr ⟨lw_p25, List.forall_mem_cons.mpr ⟨lw_p26, List.forall_mem_cons.mpr ⟨lw_p27, List.forall_mem_cons.mpr ⟨lw_p28, List.forall_mem_cons.mpr ⟨lw_p29, List.forall_mem_cons.mpr ⟨lw_p30, List.forall_mem_cons.mpr ⟨lw_p31, fun _ h => absurd h List.not_mem_nil⟩⟩⟩⟩⟩⟩⟩⟩⟩⟩⟩⟩⟩⟩⟩⟩
theorem lw_p32 : lw_okq (⟨"RidgeBureau$RuleText", "readAtom", "(LRidgeBureau$Tape;I)Z"⟩, 8) := ⟨⟨by decide +kernel, by decide +kernel⟩, List.mem_of_getElem? (i := 85) (by decide +kernel), List.mem_of_getElem? (i := 1189) (by decide +kernel), List.mem_of_getElem? (i := 1190) (by decide +kernel)⟩
theorem lw_p33 : lw_okq (⟨"RidgeBureau$RuleText", "readDeeper", "(LRidgeBureau$Tape;I)Z"⟩, 8) := ⟨⟨by decide +kernel, by decide +kernel⟩, List.mem_of_getElem? (i := 85) (by decide +kernel), List.mem_of_getElem? (i := 1193) (by decide +kernel), List.mem_of_getElem? (i := 1194) (by decide +kernel)⟩
theorem lw_p34 : lw_okq (⟨"RidgeBureau$RuleText", "emit", "(III)Z"⟩, 8) := ⟨⟨by decide +kernel, by decide +kernel⟩, List.mem_of_getElem? (i := 85) (by decide +kernel), List.mem_of_getElem? (i := 1197) (by decide +kernel), List.mem_of_getElem? (i := 1198) (by decide +kernel)⟩
theorem lw_p35 : lw_okq (⟨"RidgeBureau", "decidingRule", "(III)I"⟩, 12) := ⟨⟨by decide +kernel, by decide +kernel⟩, List.mem_of_getElem? (i := 27) (by decide +kernel), List.mem_of_getElem? (i := 1210) (by decide +kernel), List.mem_of_getElem? (i := 1211) (by decide +kernel)⟩
theorem lw_p36 : lw_okq (⟨"RidgeBureau", "needSaying", "(IIII)V"⟩, 12) := ⟨⟨by decide +kernel, by decide +kernel⟩, List.mem_of_getElem? (i := 27) (by decide +kernel), List.mem_of_getElem? (i := 1236) (by decide +kernel), List.mem_of_getElem? (i := 1237) (by decide +kernel)⟩
theorem lw_p37 : lw_okq (⟨"RidgeBureau", "gatherSayings", "(IIII)V"⟩, 12) := ⟨⟨by decide +kernel, by decide +kernel⟩, List.mem_of_getElem? (i := 27) (by decide +kernel), List.mem_of_getElem? (i := 1262) (by decide +kernel), List.mem_of_getElem? (i := 1263) (by decide +kernel)⟩
theorem lw_p38 : lw_okq (⟨"RidgeBureau", "isProved", "(IIII)Z"⟩, 12) := ⟨⟨by decide +kernel, by decide +kernel⟩, List.mem_of_getElem? (i := 27) (by decide +kernel), List.mem_of_getElem? (i := 1273) (by decide +kernel), List.mem_of_getElem? (i := 1274) (by decide +kernel)⟩
theorem lw_p39 : lw_okq (⟨"RidgeBureau", "provedMarks", "()I"⟩, 12) := ⟨⟨by decide +kernel, by decide +kernel⟩, List.mem_of_getElem? (i := 27) (by decide +kernel), List.mem_of_getElem? (i := 1335) (by decide +kernel), List.mem_of_getElem? (i := 1336) (by decide +kernel)⟩
theorem lw_p40 : lw_okq (⟨"RidgeBureau", "workDesk", "(I)V"⟩, 12) := ⟨⟨by decide +kernel, by decide +kernel⟩, List.mem_of_getElem? (i := 27) (by decide +kernel), List.mem_of_getElem? (i := 1339) (by decide +kernel), List.mem_of_getElem? (i := 1340) (by decide +kernel)⟩
theorem lw_p41 : lw_okq (⟨"RidgeBureau", "compareMark", "(II)I"⟩, 12) := ⟨⟨by decide +kernel, by decide +kernel⟩, List.mem_of_getElem? (i := 27) (by decide +kernel), List.mem_of_getElem? (i := 1343) (by decide +kernel), List.mem_of_getElem? (i := 1344) (by decide +kernel)⟩
theorem lw_p42 : lw_okq (⟨"RidgeBureau", "keepHit", "(IIII)V"⟩, 12) := ⟨⟨by decide +kernel, by decide +kernel⟩, List.mem_of_getElem? (i := 27) (by decide +kernel), List.mem_of_getElem? (i := 1351) (by decide +kernel), List.mem_of_getElem? (i := 1352) (by decide +kernel)⟩
theorem lw_p43 : lw_okq (⟨"RidgeBureau", "strikeCards", "()V"⟩, 12) := ⟨⟨by decide +kernel, by decide +kernel⟩, List.mem_of_getElem? (i := 27) (by decide +kernel), List.mem_of_getElem? (i := 1355) (by decide +kernel), List.mem_of_getElem? (i := 1356) (by decide +kernel)⟩
theorem lw_p44 : lw_okq (⟨"RidgeBureauModel", "uses", "()V"⟩, 28) := ⟨⟨by decide +kernel, by decide +kernel⟩, List.mem_of_getElem? (i := 1427) (by decide +kernel), List.mem_of_getElem? (i := 1543) (by decide +kernel), List.mem_of_getElem? (i := 1544) (by decide +kernel)⟩
theorem lw_p45 : lw_okq (⟨"RidgeBureauModel", "readField", "()Z"⟩, 28) := ⟨⟨by decide +kernel, by decide +kernel⟩, List.mem_of_getElem? (i := 1427) (by decide +kernel), List.mem_of_getElem? (i := 1547) (by decide +kernel), List.mem_of_getElem? (i := 1548) (by decide +kernel)⟩
theorem lw_p46 : lw_okq (⟨"RidgeBureauModel", "sign", "(I)Z"⟩, 28) := ⟨⟨by decide +kernel, by decide +kernel⟩, List.mem_of_getElem? (i := 1427) (by decide +kernel), List.mem_of_getElem? (i := 1551) (by decide +kernel), List.mem_of_getElem? (i := 1552) (by decide +kernel)⟩
theorem lw_p47 : lw_okq (⟨"RidgeBureauModel", "blanks", "()V"⟩, 28) := ⟨⟨by decide +kernel, by decide +kernel⟩, List.mem_of_getElem? (i := 1427) (by decide +kernel), List.mem_of_getElem? (i := 1555) (by decide +kernel), List.mem_of_getElem? (i := 1556) (by decide +kernel)⟩
def lw_privs_3 : List (MethodName × Nat) := [(⟨"RidgeBureau$RuleText", "readAtom", "(LRidgeBureau$Tape;I)Z"⟩, 8), (⟨"RidgeBureau$RuleText", "readDeeper", "(LRidgeBureau$Tape;I)Z"⟩, 8), (⟨"RidgeBureau$RuleText", "emit", "(III)Z"⟩, 8), (⟨"RidgeBureau", "decidingRule", "(III)I"⟩, 12), (⟨"RidgeBureau", "needSaying", "(IIII)V"⟩, 12), (⟨"RidgeBureau", "gatherSayings", "(IIII)V"⟩, 12), (⟨"RidgeBureau", "isProved", "(IIII)Z"⟩, 12), (⟨"RidgeBureau", "provedMarks", "()I"⟩, 12), (⟨"RidgeBureau", "workDesk", "(I)V"⟩, 12), (⟨"RidgeBureau", "compareMark", "(II)I"⟩, 12), (⟨"RidgeBureau", "keepHit", "(IIII)V"⟩, 12), (⟨"RidgeBureau", "strikeCards", "()V"⟩, 12), (⟨"RidgeBureauModel", "uses", "()V"⟩, 28), (⟨"RidgeBureauModel", "readField", "()Z"⟩, 28), (⟨"RidgeBureauModel", "sign", "(I)Z"⟩, 28), (⟨"RidgeBureauModel", "blanks", "()V"⟩, 28)]
theorem lw_r3 : ∀ q ∈ lw_privs_3, lw_okq q := List.forall_mem_cons.mpr ⟨lw_p32, List.forall_mem_cons.mpr ⟨lw_p33, List.forall_mem_cons.mpr ⟨lw_p34, List.forall_mem_cons.mpr ⟨lw_p35, List.forall_mem_cons.mpr ⟨lw_p36, List.forall_mem_cons.mpr ⟨lw_p37, List.forall_mem_cons.mpr ⟨lw_p38, List.forall_mem_cons.mpr ⟨lw_p39, List.forall_mem_cons.mpr ⟨lw_p40, List.forall_mem_cons.mpr ⟨lw_p41, List.forall_mem_cons.mpr ⟨lw_p42, List.forall_mem_cons.mpr ⟨lw_p43, List.forall_mem_cons.mpr ⟨lw_p44, List.forall_mem_cons.mpr ⟨lw_p45, List.forall_mem_cons.mpr ⟨lw_p46, List.forall_mem_cons.mpr ⟨lw_p47, fun _ h => absurd h List.not_mem_nil⟩⟩⟩⟩⟩⟩⟩⟩⟩⟩⟩⟩⟩⟩⟩⟩
theorem lw_p48 : lw_okq (⟨"RidgeBureauModel", "isAt", "(II)Z"⟩, 28) := ⟨⟨by decide +kernel, by decide +kernel⟩, List.mem_of_getElem? (i := 1427) (by decide +kernel), List.mem_of_getElem? (i := 1559) (by decide +kernel), List.mem_of_getElem? (i := 1560) (by decide +kernel)⟩
theorem lw_p49 : lw_okq (⟨"RidgeBureauModel", "throwsIf", "(ZI)Z"⟩, 28) := ⟨⟨by decide +kernel, by decide +kernel⟩, List.mem_of_getElem? (i := 1427) (by decide +kernel), List.mem_of_getElem? (i := 1563) (by decide +kernel), List.mem_of_getElem? (i := 1564) (by decide +kernel)⟩
theorem lw_p50 : lw_okq (⟨"RidgeBureauModel", "noPrint", "(I)Z"⟩, 28) := ⟨⟨by decide +kernel, by decide +kernel⟩, List.mem_of_getElem? (i := 1427) (by decide +kernel), List.mem_of_getElem? (i := 1574) (by decide +kernel), List.mem_of_getElem? (i := 1575) (by decide +kernel)⟩
theorem lw_p51 : lw_okq (⟨"RidgeBureauModel", "turnOf", "(II)I"⟩, 28) := ⟨⟨by decide +kernel, by decide +kernel⟩, List.mem_of_getElem? (i := 1427) (by decide +kernel), List.mem_of_getElem? (i := 1585) (by decide +kernel), List.mem_of_getElem? (i := 1586) (by decide +kernel)⟩
theorem lw_p52 : lw_okq (⟨"RidgeBureauModel", "around", "(IIII)I"⟩, 28) := ⟨⟨by decide +kernel, by decide +kernel⟩, List.mem_of_getElem? (i := 1427) (by decide +kernel), List.mem_of_getElem? (i := 1589) (by decide +kernel), List.mem_of_getElem? (i := 1590) (by decide +kernel)⟩
theorem lw_p53 : lw_okq (⟨"RidgeBureauModel", "cellOf", "(III)I"⟩, 28) := ⟨⟨by decide +kernel, by decide +kernel⟩, List.mem_of_getElem? (i := 1427) (by decide +kernel), List.mem_of_getElem? (i := 1593) (by decide +kernel), List.mem_of_getElem? (i := 1594) (by decide +kernel)⟩
theorem lw_p54 : lw_okq (⟨"RidgeBureauModel", "singularOf", "(III)I"⟩, 28) := ⟨⟨by decide +kernel, by decide +kernel⟩, List.mem_of_getElem? (i := 1427) (by decide +kernel), List.mem_of_getElem? (i := 1604) (by decide +kernel), List.mem_of_getElem? (i := 1605) (by decide +kernel)⟩
theorem lw_p55 : lw_okq (⟨"RidgeBureauModel", "patternOf", "(I)I"⟩, 28) := ⟨⟨by decide +kernel, by decide +kernel⟩, List.mem_of_getElem? (i := 1427) (by decide +kernel), List.mem_of_getElem? (i := 1612) (by decide +kernel), List.mem_of_getElem? (i := 1613) (by decide +kernel)⟩
theorem lw_p56 : lw_okq (⟨"RidgeBureauModel", "ridgesOf", "(I)I"⟩, 28) := ⟨⟨by decide +kernel, by decide +kernel⟩, List.mem_of_getElem? (i := 1427) (by decide +kernel), List.mem_of_getElem? (i := 1620) (by decide +kernel), List.mem_of_getElem? (i := 1621) (by decide +kernel)⟩
theorem lw_p57 : lw_okq (⟨"RidgeBureauModel", "adds", "(IIIII)I"⟩, 28) := ⟨⟨by decide +kernel, by decide +kernel⟩, List.mem_of_getElem? (i := 1427) (by decide +kernel), List.mem_of_getElem? (i := 1638) (by decide +kernel), List.mem_of_getElem? (i := 1639) (by decide +kernel)⟩
theorem lw_p58 : lw_okq (⟨"RidgeBureauModel", "today", "()I"⟩, 28) := ⟨⟨by decide +kernel, by decide +kernel⟩, List.mem_of_getElem? (i := 1427) (by decide +kernel), List.mem_of_getElem? (i := 1649) (by decide +kernel), List.mem_of_getElem? (i := 1650) (by decide +kernel)⟩
theorem lw_p59 : lw_okq (⟨"RidgeBureauModel", "noMark", "(I)Z"⟩, 28) := ⟨⟨by decide +kernel, by decide +kernel⟩, List.mem_of_getElem? (i := 1427) (by decide +kernel), List.mem_of_getElem? (i := 1657) (by decide +kernel), List.mem_of_getElem? (i := 1658) (by decide +kernel)⟩
theorem lw_p60 : lw_okq (⟨"RidgeBureauModel", "laysMark", "(II)V"⟩, 28) := ⟨⟨by decide +kernel, by decide +kernel⟩, List.mem_of_getElem? (i := 1427) (by decide +kernel), List.mem_of_getElem? (i := 1669) (by decide +kernel), List.mem_of_getElem? (i := 1670) (by decide +kernel)⟩
theorem lw_p61 : lw_okq (⟨"RidgeBureauModel", "lays", "(IIIIII)V"⟩, 28) := ⟨⟨by decide +kernel, by decide +kernel⟩, List.mem_of_getElem? (i := 1427) (by decide +kernel), List.mem_of_getElem? (i := 1673) (by decide +kernel), List.mem_of_getElem? (i := 1674) (by decide +kernel)⟩
theorem lw_p62 : lw_okq (⟨"RidgeBureauModel", "tries", "(IIIIIIIII)V"⟩, 28) := ⟨⟨by decide +kernel, by decide +kernel⟩, List.mem_of_getElem? (i := 1427) (by decide +kernel), List.mem_of_getElem? (i := 1683) (by decide +kernel), List.mem_of_getElem? (i := 1684) (by decide +kernel)⟩
theorem lw_p63 : lw_okq (⟨"RidgeBureauModel", "mayPair", "(IIIII)Z"⟩, 28) := ⟨⟨by decide +kernel, by decide +kernel⟩, List.mem_of_getElem? (i := 1427) (by decide +kernel), List.mem_of_getElem? (i := 1687) (by decide +kernel), List.mem_of_getElem? (i := 1688) (by decide +kernel)⟩
def lw_privs_4 : List (MethodName × Nat) := [(⟨"RidgeBureauModel", "isAt", "(II)Z"⟩, 28), (⟨"RidgeBureauModel", "throwsIf", "(ZI)Z"⟩, 28), (⟨"RidgeBureauModel", "noPrint", "(I)Z"⟩, 28), (⟨"RidgeBureauModel", "turnOf", "(II)I"⟩, 28), (⟨"RidgeBureauModel", "around", "(IIII)I"⟩, 28), (⟨"RidgeBureauModel", "cellOf", "(III)I"⟩, 28), (⟨"RidgeBureauModel", "singularOf", "(III)I"⟩, 28), (⟨"RidgeBureauModel", "patternOf", "(I)I"⟩, 28), (⟨"RidgeBureauModel", "ridgesOf", "(I)I"⟩, 28), (⟨"RidgeBureauModel", "adds", "(IIIII)I"⟩, 28), (⟨"RidgeBureauModel", "today", "()I"⟩, 28), (⟨"RidgeBureauModel", "noMark", "(I)Z"⟩, 28), (⟨"RidgeBureauModel", "laysMark", "(II)V"⟩, 28), (⟨"RidgeBureauModel", "lays", "(IIIIII)V"⟩, 28), (⟨"RidgeBureauModel", "tries", "(IIIIIIIII)V"⟩, 28), (⟨"RidgeBureauModel", "mayPair", "(IIIII)Z"⟩, 28)]
theorem lw_r4 : ∀ q ∈ lw_privs_4, lw_okq q := List.forall_mem_cons.mpr ⟨lw_p48, List.forall_mem_cons.mpr ⟨lw_p49, List.forall_mem_cons.mpr ⟨lw_p50, List.forall_mem_cons.mpr ⟨lw_p51, List.forall_mem_cons.mpr ⟨lw_p52, List.forall_mem_cons.mpr ⟨lw_p53, List.forall_mem_cons.mpr ⟨lw_p54, List.forall_mem_cons.mpr ⟨lw_p55, List.forall_mem_cons.mpr ⟨lw_p56, List.forall_mem_cons.mpr ⟨lw_p57, List.forall_mem_cons.mpr ⟨lw_p58, List.forall_mem_cons.mpr ⟨lw_p59, List.forall_mem_cons.mpr ⟨lw_p60, List.forall_mem_cons.mpr ⟨lw_p61, List.forall_mem_cons.mpr ⟨lw_p62, List.forall_mem_cons.mpr ⟨lw_p63, fun _ h => absurd h List.not_mem_nil⟩⟩⟩⟩⟩⟩⟩⟩⟩⟩⟩⟩⟩⟩⟩⟩
theorem lw_p64 : lw_okq (⟨"RidgeBureauModel", "pairsOf", "(II)I"⟩, 28) := ⟨⟨by decide +kernel, by decide +kernel⟩, List.mem_of_getElem? (i := 1427) (by decide +kernel), List.mem_of_getElem? (i := 1696) (by decide +kernel), List.mem_of_getElem? (i := 1697) (by decide +kernel)⟩
theorem lw_p65 : lw_okq (⟨"RidgeBureauModel", "seeks", "(II)Z"⟩, 28) := ⟨⟨by decide +kernel, by decide +kernel⟩, List.mem_of_getElem? (i := 1427) (by decide +kernel), List.mem_of_getElem? (i := 1700) (by decide +kernel), List.mem_of_getElem? (i := 1701) (by decide +kernel)⟩
theorem lw_p66 : lw_okq (⟨"RidgeBureauModel", "noCard", "(I)Z"⟩, 28) := ⟨⟨by decide +kernel, by decide +kernel⟩, List.mem_of_getElem? (i := 1427) (by decide +kernel), List.mem_of_getElem? (i := 1715) (by decide +kernel), List.mem_of_getElem? (i := 1716) (by decide +kernel)⟩
theorem lw_p67 : lw_okq (⟨"RidgeBureauModel", "of", "(II)I"⟩, 28) := ⟨⟨by decide +kernel, by decide +kernel⟩, List.mem_of_getElem? (i := 1427) (by decide +kernel), List.mem_of_getElem? (i := 1722) (by decide +kernel), List.mem_of_getElem? (i := 1723) (by decide +kernel)⟩
theorem lw_p68 : lw_okq (⟨"RidgeBureauModel", "classOf", "(III)I"⟩, 28) := ⟨⟨by decide +kernel, by decide +kernel⟩, List.mem_of_getElem? (i := 1427) (by decide +kernel), List.mem_of_getElem? (i := 1737) (by decide +kernel), List.mem_of_getElem? (i := 1738) (by decide +kernel)⟩
theorem lw_p69 : lw_okq (⟨"RidgeBureauModel", "ownClass", "(III)I"⟩, 28) := ⟨⟨by decide +kernel, by decide +kernel⟩, List.mem_of_getElem? (i := 1427) (by decide +kernel), List.mem_of_getElem? (i := 1741) (by decide +kernel), List.mem_of_getElem? (i := 1742) (by decide +kernel)⟩
theorem lw_p70 : lw_okq (⟨"RidgeBureauModel", "classOfPrint", "(I)I"⟩, 28) := ⟨⟨by decide +kernel, by decide +kernel⟩, List.mem_of_getElem? (i := 1427) (by decide +kernel), List.mem_of_getElem? (i := 1745) (by decide +kernel), List.mem_of_getElem? (i := 1746) (by decide +kernel)⟩
theorem lw_p71 : lw_okq (⟨"RidgeBureauModel", "numberOf", "(IIZ)I"⟩, 28) := ⟨⟨by decide +kernel, by decide +kernel⟩, List.mem_of_getElem? (i := 1427) (by decide +kernel), List.mem_of_getElem? (i := 1753) (by decide +kernel), List.mem_of_getElem? (i := 1754) (by decide +kernel)⟩
theorem lw_p72 : lw_okq (⟨"RidgeBureauModel", "reads", "(I[J)I"⟩, 28) := ⟨⟨by decide +kernel, by decide +kernel⟩, List.mem_of_getElem? (i := 1427) (by decide +kernel), List.mem_of_getElem? (i := 1761) (by decide +kernel), List.mem_of_getElem? (i := 1762) (by decide +kernel)⟩
theorem lw_p73 : lw_okq (⟨"RidgeBureauModel", "isFiled", "(I)Z"⟩, 28) := ⟨⟨by decide +kernel, by decide +kernel⟩, List.mem_of_getElem? (i := 1427) (by decide +kernel), List.mem_of_getElem? (i := 1769) (by decide +kernel), List.mem_of_getElem? (i := 1770) (by decide +kernel)⟩
theorem lw_p74 : lw_okq (⟨"RidgeBureauModel", "readAll", "()I"⟩, 28) := ⟨⟨by decide +kernel, by decide +kernel⟩, List.mem_of_getElem? (i := 1427) (by decide +kernel), List.mem_of_getElem? (i := 1777) (by decide +kernel), List.mem_of_getElem? (i := 1778) (by decide +kernel)⟩
theorem lw_p75 : lw_okq (⟨"RidgeBureauModel", "readRule", "(I)Z"⟩, 28) := ⟨⟨by decide +kernel, by decide +kernel⟩, List.mem_of_getElem? (i := 1427) (by decide +kernel), List.mem_of_getElem? (i := 1781) (by decide +kernel), List.mem_of_getElem? (i := 1782) (by decide +kernel)⟩
theorem lw_p76 : lw_okq (⟨"RidgeBureauModel", "word", "()V"⟩, 28) := ⟨⟨by decide +kernel, by decide +kernel⟩, List.mem_of_getElem? (i := 1427) (by decide +kernel), List.mem_of_getElem? (i := 1785) (by decide +kernel), List.mem_of_getElem? (i := 1786) (by decide +kernel)⟩
theorem lw_p77 : lw_okq (⟨"RidgeBureauModel", "isWord", "(Ljava/lang/String;)Z"⟩, 28) := ⟨⟨by decide +kernel, by decide +kernel⟩, List.mem_of_getElem? (i := 1427) (by decide +kernel), List.mem_of_getElem? (i := 1796) (by decide +kernel), List.mem_of_getElem? (i := 1797) (by decide +kernel)⟩
theorem lw_p78 : lw_okq (⟨"RidgeBureauModel", "number", "(II)I"⟩, 28) := ⟨⟨by decide +kernel, by decide +kernel⟩, List.mem_of_getElem? (i := 1427) (by decide +kernel), List.mem_of_getElem? (i := 1807) (by decide +kernel), List.mem_of_getElem? (i := 1808) (by decide +kernel)⟩
theorem lw_p79 : lw_okq (⟨"RidgeBureauModel", "passes", "(Ljava/lang/String;)Z"⟩, 28) := ⟨⟨by decide +kernel, by decide +kernel⟩, List.mem_of_getElem? (i := 1427) (by decide +kernel), List.mem_of_getElem? (i := 1812) (by decide +kernel), List.mem_of_getElem? (i := 1813) (by decide +kernel)⟩
def lw_privs_5 : List (MethodName × Nat) := [(⟨"RidgeBureauModel", "pairsOf", "(II)I"⟩, 28), (⟨"RidgeBureauModel", "seeks", "(II)Z"⟩, 28), (⟨"RidgeBureauModel", "noCard", "(I)Z"⟩, 28), (⟨"RidgeBureauModel", "of", "(II)I"⟩, 28), (⟨"RidgeBureauModel", "classOf", "(III)I"⟩, 28), (⟨"RidgeBureauModel", "ownClass", "(III)I"⟩, 28), (⟨"RidgeBureauModel", "classOfPrint", "(I)I"⟩, 28), (⟨"RidgeBureauModel", "numberOf", "(IIZ)I"⟩, 28), (⟨"RidgeBureauModel", "reads", "(I[J)I"⟩, 28), (⟨"RidgeBureauModel", "isFiled", "(I)Z"⟩, 28), (⟨"RidgeBureauModel", "readAll", "()I"⟩, 28), (⟨"RidgeBureauModel", "readRule", "(I)Z"⟩, 28), (⟨"RidgeBureauModel", "word", "()V"⟩, 28), (⟨"RidgeBureauModel", "isWord", "(Ljava/lang/String;)Z"⟩, 28), (⟨"RidgeBureauModel", "number", "(II)I"⟩, 28), (⟨"RidgeBureauModel", "passes", "(Ljava/lang/String;)Z"⟩, 28)]
theorem lw_r5 : ∀ q ∈ lw_privs_5, lw_okq q := List.forall_mem_cons.mpr ⟨lw_p64, List.forall_mem_cons.mpr ⟨lw_p65, List.forall_mem_cons.mpr ⟨lw_p66, List.forall_mem_cons.mpr ⟨lw_p67, List.forall_mem_cons.mpr ⟨lw_p68, List.forall_mem_cons.mpr ⟨lw_p69, List.forall_mem_cons.mpr ⟨lw_p70, List.forall_mem_cons.mpr ⟨lw_p71, List.forall_mem_cons.mpr ⟨lw_p72, List.forall_mem_cons.mpr ⟨lw_p73, List.forall_mem_cons.mpr ⟨lw_p74, List.forall_mem_cons.mpr ⟨lw_p75, List.forall_mem_cons.mpr ⟨lw_p76, List.forall_mem_cons.mpr ⟨lw_p77, List.forall_mem_cons.mpr ⟨lw_p78, List.forall_mem_cons.mpr ⟨lw_p79, fun _ h => absurd h List.not_mem_nil⟩⟩⟩⟩⟩⟩⟩⟩⟩⟩⟩⟩⟩⟩⟩⟩
theorem lw_p80 : lw_okq (⟨"RidgeBureauModel", "readCond", "()Z"⟩, 28) := ⟨⟨by decide +kernel, by decide +kernel⟩, List.mem_of_getElem? (i := 1427) (by decide +kernel), List.mem_of_getElem? (i := 1816) (by decide +kernel), List.mem_of_getElem? (i := 1817) (by decide +kernel)⟩
theorem lw_p81 : lw_okq (⟨"RidgeBureauModel", "readAllOf", "()Z"⟩, 28) := ⟨⟨by decide +kernel, by decide +kernel⟩, List.mem_of_getElem? (i := 1427) (by decide +kernel), List.mem_of_getElem? (i := 1820) (by decide +kernel), List.mem_of_getElem? (i := 1821) (by decide +kernel)⟩
theorem lw_p82 : lw_okq (⟨"RidgeBureauModel", "readAtom", "()Z"⟩, 28) := ⟨⟨by decide +kernel, by decide +kernel⟩, List.mem_of_getElem? (i := 1427) (by decide +kernel), List.mem_of_getElem? (i := 1824) (by decide +kernel), List.mem_of_getElem? (i := 1825) (by decide +kernel)⟩
theorem lw_p83 : lw_okq (⟨"RidgeBureauModel", "emits", "(II)V"⟩, 28) := ⟨⟨by decide +kernel, by decide +kernel⟩, List.mem_of_getElem? (i := 1427) (by decide +kernel), List.mem_of_getElem? (i := 1829) (by decide +kernel), List.mem_of_getElem? (i := 1830) (by decide +kernel)⟩
theorem lw_p84 : lw_okq (⟨"RidgeBureauModel", "looksAtLay", "(III)V"⟩, 28) := ⟨⟨by decide +kernel, by decide +kernel⟩, List.mem_of_getElem? (i := 1427) (by decide +kernel), List.mem_of_getElem? (i := 1848) (by decide +kernel), List.mem_of_getElem? (i := 1849) (by decide +kernel)⟩
theorem lw_p85 : lw_okq (⟨"RidgeBureauModel", "looks", "(IIIII)V"⟩, 28) := ⟨⟨by decide +kernel, by decide +kernel⟩, List.mem_of_getElem? (i := 1427) (by decide +kernel), List.mem_of_getElem? (i := 1852) (by decide +kernel), List.mem_of_getElem? (i := 1853) (by decide +kernel)⟩
theorem lw_p86 : lw_okq (⟨"RidgeBureauModel", "judges", "(I)I"⟩, 28) := ⟨⟨by decide +kernel, by decide +kernel⟩, List.mem_of_getElem? (i := 1427) (by decide +kernel), List.mem_of_getElem? (i := 1856) (by decide +kernel), List.mem_of_getElem? (i := 1857) (by decide +kernel)⟩
theorem lw_p87 : lw_okq (⟨"RidgeBureauModel", "textOf", "(I)I"⟩, 28) := ⟨⟨by decide +kernel, by decide +kernel⟩, List.mem_of_getElem? (i := 1427) (by decide +kernel), List.mem_of_getElem? (i := 1860) (by decide +kernel), List.mem_of_getElem? (i := 1861) (by decide +kernel)⟩
theorem lw_p88 : lw_okq (⟨"RidgeBureauModel", "firstOf", "(II)I"⟩, 28) := ⟨⟨by decide +kernel, by decide +kernel⟩, List.mem_of_getElem? (i := 1427) (by decide +kernel), List.mem_of_getElem? (i := 1864) (by decide +kernel), List.mem_of_getElem? (i := 1865) (by decide +kernel)⟩
theorem lw_p89 : lw_okq (⟨"RidgeBureauModel", "rulesOf", "(I)I"⟩, 28) := ⟨⟨by decide +kernel, by decide +kernel⟩, List.mem_of_getElem? (i := 1427) (by decide +kernel), List.mem_of_getElem? (i := 1868) (by decide +kernel), List.mem_of_getElem? (i := 1869) (by decide +kernel)⟩
theorem lw_p90 : lw_okq (⟨"RidgeBureauModel", "holds", "(II)Z"⟩, 28) := ⟨⟨by decide +kernel, by decide +kernel⟩, List.mem_of_getElem? (i := 1427) (by decide +kernel), List.mem_of_getElem? (i := 1872) (by decide +kernel), List.mem_of_getElem? (i := 1873) (by decide +kernel)⟩
theorem lw_p91 : lw_okq (⟨"RidgeBureauModel", "keptOf", "(II)I"⟩, 28) := ⟨⟨by decide +kernel, by decide +kernel⟩, List.mem_of_getElem? (i := 1427) (by decide +kernel), List.mem_of_getElem? (i := 1884) (by decide +kernel), List.mem_of_getElem? (i := 1885) (by decide +kernel)⟩
theorem lw_p92 : lw_okq (⟨"RidgeBureauModel", "looksAtCard", "(II)V"⟩, 28) := ⟨⟨by decide +kernel, by decide +kernel⟩, List.mem_of_getElem? (i := 1427) (by decide +kernel), List.mem_of_getElem? (i := 1888) (by decide +kernel), List.mem_of_getElem? (i := 1889) (by decide +kernel)⟩
theorem lw_p93 : lw_okq (⟨"RidgeBureauModel", "saidOf", "(IIIII)I"⟩, 28) := ⟨⟨by decide +kernel, by decide +kernel⟩, List.mem_of_getElem? (i := 1427) (by decide +kernel), List.mem_of_getElem? (i := 1904) (by decide +kernel), List.mem_of_getElem? (i := 1905) (by decide +kernel)⟩
theorem lw_p94 : lw_okq (⟨"RidgeBureauModel", "isProved", "(IIII)Z"⟩, 28) := ⟨⟨by decide +kernel, by decide +kernel⟩, List.mem_of_getElem? (i := 1427) (by decide +kernel), List.mem_of_getElem? (i := 1912) (by decide +kernel), List.mem_of_getElem? (i := 1913) (by decide +kernel)⟩
theorem lw_p95 : lw_okq (⟨"RidgeBureauModel", "lastNumber", "(III)I"⟩, 28) := ⟨⟨by decide +kernel, by decide +kernel⟩, List.mem_of_getElem? (i := 1427) (by decide +kernel), List.mem_of_getElem? (i := 1916) (by decide +kernel), List.mem_of_getElem? (i := 1917) (by decide +kernel)⟩
def lw_privs_6 : List (MethodName × Nat) := [(⟨"RidgeBureauModel", "readCond", "()Z"⟩, 28), (⟨"RidgeBureauModel", "readAllOf", "()Z"⟩, 28), (⟨"RidgeBureauModel", "readAtom", "()Z"⟩, 28), (⟨"RidgeBureauModel", "emits", "(II)V"⟩, 28), (⟨"RidgeBureauModel", "looksAtLay", "(III)V"⟩, 28), (⟨"RidgeBureauModel", "looks", "(IIIII)V"⟩, 28), (⟨"RidgeBureauModel", "judges", "(I)I"⟩, 28), (⟨"RidgeBureauModel", "textOf", "(I)I"⟩, 28), (⟨"RidgeBureauModel", "firstOf", "(II)I"⟩, 28), (⟨"RidgeBureauModel", "rulesOf", "(I)I"⟩, 28), (⟨"RidgeBureauModel", "holds", "(II)Z"⟩, 28), (⟨"RidgeBureauModel", "keptOf", "(II)I"⟩, 28), (⟨"RidgeBureauModel", "looksAtCard", "(II)V"⟩, 28), (⟨"RidgeBureauModel", "saidOf", "(IIIII)I"⟩, 28), (⟨"RidgeBureauModel", "isProved", "(IIII)Z"⟩, 28), (⟨"RidgeBureauModel", "lastNumber", "(III)I"⟩, 28)]
theorem lw_r6 : ∀ q ∈ lw_privs_6, lw_okq q := List.forall_mem_cons.mpr ⟨lw_p80, List.forall_mem_cons.mpr ⟨lw_p81, List.forall_mem_cons.mpr ⟨lw_p82, List.forall_mem_cons.mpr ⟨lw_p83, List.forall_mem_cons.mpr ⟨lw_p84, List.forall_mem_cons.mpr ⟨lw_p85, List.forall_mem_cons.mpr ⟨lw_p86, List.forall_mem_cons.mpr ⟨lw_p87, List.forall_mem_cons.mpr ⟨lw_p88, List.forall_mem_cons.mpr ⟨lw_p89, List.forall_mem_cons.mpr ⟨lw_p90, List.forall_mem_cons.mpr ⟨lw_p91, List.forall_mem_cons.mpr ⟨lw_p92, List.forall_mem_cons.mpr ⟨lw_p93, List.forall_mem_cons.mpr ⟨lw_p94, List.forall_mem_cons.mpr ⟨lw_p95, fun _ h => absurd h List.not_mem_nil⟩⟩⟩⟩⟩⟩⟩⟩⟩⟩⟩⟩⟩⟩⟩⟩
theorem lw_p96 : lw_okq (⟨"RidgeBureauModel", "alikeOf", "(III)I"⟩, 28) := ⟨⟨by decide +kernel, by decide +kernel⟩, List.mem_of_getElem? (i := 1427) (by decide +kernel), List.mem_of_getElem? (i := 1924) (by decide +kernel), List.mem_of_getElem? (i := 1925) (by decide +kernel)⟩
theorem lw_p97 : lw_okq (⟨"RidgeBureauModel", "joins", "(I)V"⟩, 28) := ⟨⟨by decide +kernel, by decide +kernel⟩, List.mem_of_getElem? (i := 1427) (by decide +kernel), List.mem_of_getElem? (i := 1932) (by decide +kernel), List.mem_of_getElem? (i := 1933) (by decide +kernel)⟩
theorem lw_p98 : lw_okq (⟨"RidgeBureauModel", "isThere", "(II)Z"⟩, 28) := ⟨⟨by decide +kernel, by decide +kernel⟩, List.mem_of_getElem? (i := 1427) (by decide +kernel), List.mem_of_getElem? (i := 1936) (by decide +kernel), List.mem_of_getElem? (i := 1937) (by decide +kernel)⟩
theorem lw_p99 : lw_okq (⟨"RidgeBureauModel", "desks", "()V"⟩, 28) := ⟨⟨by decide +kernel, by decide +kernel⟩, List.mem_of_getElem? (i := 1427) (by decide +kernel), List.mem_of_getElem? (i := 1952) (by decide +kernel), List.mem_of_getElem? (i := 1953) (by decide +kernel)⟩
theorem lw_p100 : lw_okq (⟨"RidgeBureauModel", "isSettled", "(I)Z"⟩, 28) := ⟨⟨by decide +kernel, by decide +kernel⟩, List.mem_of_getElem? (i := 1427) (by decide +kernel), List.mem_of_getElem? (i := 1956) (by decide +kernel), List.mem_of_getElem? (i := 1957) (by decide +kernel)⟩
theorem lw_p101 : lw_okq (⟨"RidgeBureauModel", "isWaiting", "(II)Z"⟩, 28) := ⟨⟨by decide +kernel, by decide +kernel⟩, List.mem_of_getElem? (i := 1427) (by decide +kernel), List.mem_of_getElem? (i := 1960) (by decide +kernel), List.mem_of_getElem? (i := 1961) (by decide +kernel)⟩
theorem lw_p102 : lw_okq (⟨"RidgeBureauModel", "compares", "(II)V"⟩, 28) := ⟨⟨by decide +kernel, by decide +kernel⟩, List.mem_of_getElem? (i := 1427) (by decide +kernel), List.mem_of_getElem? (i := 1964) (by decide +kernel), List.mem_of_getElem? (i := 1965) (by decide +kernel)⟩
theorem lw_p103 : lw_okq (⟨"RidgeBureauModel", "strikes", "()V"⟩, 28) := ⟨⟨by decide +kernel, by decide +kernel⟩, List.mem_of_getElem? (i := 1427) (by decide +kernel), List.mem_of_getElem? (i := 1968) (by decide +kernel), List.mem_of_getElem? (i := 1969) (by decide +kernel)⟩
theorem lw_p104 : lw_okq (⟨"RidgeBureauModel", "rowAt", "(I)I"⟩, 28) := ⟨⟨by decide +kernel, by decide +kernel⟩, List.mem_of_getElem? (i := 1427) (by decide +kernel), List.mem_of_getElem? (i := 1996) (by decide +kernel), List.mem_of_getElem? (i := 1997) (by decide +kernel)⟩
def lw_privs_7 : List (MethodName × Nat) := [(⟨"RidgeBureauModel", "alikeOf", "(III)I"⟩, 28), (⟨"RidgeBureauModel", "joins", "(I)V"⟩, 28), (⟨"RidgeBureauModel", "isThere", "(II)Z"⟩, 28), (⟨"RidgeBureauModel", "desks", "()V"⟩, 28), (⟨"RidgeBureauModel", "isSettled", "(I)Z"⟩, 28), (⟨"RidgeBureauModel", "isWaiting", "(II)Z"⟩, 28), (⟨"RidgeBureauModel", "compares", "(II)V"⟩, 28), (⟨"RidgeBureauModel", "strikes", "()V"⟩, 28), (⟨"RidgeBureauModel", "rowAt", "(I)I"⟩, 28)]
theorem lw_r7 : ∀ q ∈ lw_privs_7, lw_okq q := List.forall_mem_cons.mpr ⟨lw_p96, List.forall_mem_cons.mpr ⟨lw_p97, List.forall_mem_cons.mpr ⟨lw_p98, List.forall_mem_cons.mpr ⟨lw_p99, List.forall_mem_cons.mpr ⟨lw_p100, List.forall_mem_cons.mpr ⟨lw_p101, List.forall_mem_cons.mpr ⟨lw_p102, List.forall_mem_cons.mpr ⟨lw_p103, List.forall_mem_cons.mpr ⟨lw_p104, fun _ h => absurd h List.not_mem_nil⟩⟩⟩⟩⟩⟩⟩⟩⟩
def lw_privs : List (MethodName × Nat) := lw_privs_1 ++ (lw_privs_2 ++ (lw_privs_3 ++ (lw_privs_4 ++ (lw_privs_5 ++ (lw_privs_6 ++ (lw_privs_7))))))
def lw_tbl : List Cond := k2_sels lw_privs ++ tables_1
theorem lw_privs_ok : ∀ q ∈ lw_privs, lw_okq q := by
  show ∀ q ∈ lw_privs_1 ++ (lw_privs_2 ++ (lw_privs_3 ++ (lw_privs_4 ++ (lw_privs_5 ++ (lw_privs_6 ++ (lw_privs_7)))))), lw_okq q
  exact List.forall_mem_append.mpr ⟨lw_r1, List.forall_mem_append.mpr ⟨lw_r2, List.forall_mem_append.mpr ⟨lw_r3, List.forall_mem_append.mpr ⟨lw_r4, List.forall_mem_append.mpr ⟨lw_r5, List.forall_mem_append.mpr ⟨lw_r6, lw_r7⟩⟩⟩⟩⟩⟩
end
section
/-! ===== BEGIN printed: names, fields, word lists, decode rows ===== -/
def RX0 : String := "RidgeBureau$Card"
def TX0 : u_T := fun k => match k with
  | 0 => ("RidgeBureau$Card", "itsName", "I", false)
  | 1 => ("RidgeBureau$Card", "takenOn", "I", false)
  | 2 => ("RidgeBureau$Card", "struckOn", "I", false)
  | 3 => ("RidgeBureau$Card", "prints", "[I", true)
  | 4 => ("RidgeBureau$Card", "seconds", "[I", true)
  | 5 => ("RidgeBureau$Card", "compared", "[I", true)
  | _ => ("RidgeBureau$Card", "told", "[I", true)
def tyX0 : Nat → FieldType := fun k => match k with
  | 0 => .int
  | 1 => .int
  | 2 => .int
  | 3 => .array .int
  | 4 => .array .int
  | 5 => .array .int
  | _ => .array .int
abbrev wsX00 : List Cond := u_ws RX0 TX0 7
theorem nmX0 : ∀ a, a < 7 → ∀ b, b < 7 → a ≠ b → (TX0 a).2.1 ≠ (TX0 b).2.1 := by decide +kernel
theorem tyX0_ok : ∀ k, k < 7 → parseFieldDescriptor (TX0 k).2.2.1 = some (tyX0 k) := by decide +kernel
abbrev cX0_init : ByteArray := prog_2_method_1_code
def yX0_init : MethodName := ⟨RX0, "<init>", "()V"⟩
abbrev cX0_begin : ByteArray := prog_2_method_2_code
def yX0_begin : MethodName := ⟨RX0, "begin", "(II)V"⟩
abbrev cX0_doubtful : ByteArray := prog_2_method_3_code
def yX0_doubtful : MethodName := ⟨RX0, "doubtful", "()I"⟩
abbrev cX0_withPrints : ByteArray := prog_2_method_4_code
def yX0_withPrints : MethodName := ⟨RX0, "withPrints", "()I"⟩
abbrev cX0_choices : ByteArray := prog_2_method_5_code
def yX0_choices : MethodName := ⟨RX0, "choices", "()I"⟩
abbrev cX0_isThereOn : ByteArray := prog_2_method_6_code
def yX0_isThereOn : MethodName := ⟨RX0, "isThereOn", "(I)Z"⟩
abbrev cX0_wasToldOn : ByteArray := prog_2_method_7_code
def yX0_wasToldOn : MethodName := ⟨RX0, "wasToldOn", "(II)Z"⟩
abbrev cX0_copyFrom : ByteArray := prog_2_method_8_code
def yX0_copyFrom : MethodName := ⟨RX0, "copyFrom", "(LRidgeBureau$Card;)V"⟩
def RX1 : String := "RidgeBureau$Facts"
def TX1 : u_T := fun k => match k with
  | 0 => ("RidgeBureau$Facts", "values", "[J", true)
  | _ => ("RidgeBureau$Facts", "tags", "I", false)
def tyX1 : Nat → FieldType := fun k => match k with
  | 0 => .array .long
  | _ => .int
abbrev wsX10 : List Cond := u_ws RX1 TX1 2
theorem nmX1 : ∀ a, a < 2 → ∀ b, b < 2 → a ≠ b → (TX1 a).2.1 ≠ (TX1 b).2.1 := by decide +kernel
theorem tyX1_ok : ∀ k, k < 2 → parseFieldDescriptor (TX1 k).2.2.1 = some (tyX1 k) := by decide +kernel
abbrev cX1_init : ByteArray := prog_3_method_1_code
def yX1_init : MethodName := ⟨RX1, "<init>", "()V"⟩
abbrev cX1_ofLay : ByteArray := prog_3_method_2_code
def yX1_ofLay : MethodName := ⟨RX1, "ofLay", "(LRidgeBureau$Lays;II)V"⟩
abbrev cX1_ofCard : ByteArray := prog_3_method_3_code
def yX1_ofCard : MethodName := ⟨RX1, "ofCard", "(LRidgeBureau$Card;I)V"⟩
abbrev cX1_setAge : ByteArray := prog_3_method_4_code
def yX1_setAge : MethodName := ⟨RX1, "setAge", "(J)V"⟩
abbrev cX1_setTag : ByteArray := prog_3_method_5_code
def yX1_setTag : MethodName := ⟨RX1, "setTag", "(IZ)V"⟩
abbrev cX1_isTrue : ByteArray := prog_3_method_6_code
def yX1_isTrue : MethodName := ⟨RX1, "isTrue", "(III)Z"⟩
def RX2 : String := "RidgeBureau$Lays"
def TX2 : u_T := fun k => match k with
  | 0 => ("RidgeBureau$Lays", "pairs", "I", false)
  | 1 => ("RidgeBureau$Lays", "against", "I", false)
  | 2 => ("RidgeBureau$Lays", "quarters", "I", false)
  | 3 => ("RidgeBureau$Lays", "shiftX", "I", false)
  | 4 => ("RidgeBureau$Lays", "shiftY", "I", false)
  | 5 => ("RidgeBureau$Lays", "isFound", "Z", false)
  | 6 => ("RidgeBureau$Lays", "turned", "LRidgeBureau$Sheet;", true)
  | 7 => ("RidgeBureau$Lays", "mates", "[I", true)
  | 8 => ("RidgeBureau$Lays", "holders", "[I", true)
  | 9 => ("RidgeBureau$Lays", "seen", "I", false)
  | 10 => ("RidgeBureau$Lays", "kept", "[I", true)
  | _ => ("RidgeBureau$Lays", "version", "I", false)
def tyX2 : Nat → FieldType := fun k => match k with
  | 0 => .int
  | 1 => .int
  | 2 => .int
  | 3 => .int
  | 4 => .int
  | 5 => .boolean
  | 6 => .object "RidgeBureau$Sheet"
  | 7 => .array .int
  | 8 => .array .int
  | 9 => .int
  | 10 => .array .int
  | _ => .int
abbrev wsX20 : List Cond := u_ws RX2 TX2 12
theorem nmX2 : ∀ a, a < 12 → ∀ b, b < 12 → a ≠ b → (TX2 a).2.1 ≠ (TX2 b).2.1 := by decide +kernel
theorem tyX2_ok : ∀ k, k < 12 → parseFieldDescriptor (TX2 k).2.2.1 = some (tyX2 k) := by decide +kernel
abbrev cX2_init : ByteArray := prog_4_method_1_code
def yX2_init : MethodName := ⟨RX2, "<init>", "()V"⟩
abbrev cX2_keyOfMark : ByteArray := prog_4_method_2_code
def yX2_keyOfMark : MethodName := ⟨RX2, "keyOfMark", "(II)I"⟩
abbrev cX2_keyOfPrint : ByteArray := prog_4_method_3_code
def yX2_keyOfPrint : MethodName := ⟨RX2, "keyOfPrint", "(II)I"⟩
abbrev cX2_forget : ByteArray := prog_4_method_4_code
def yX2_forget : MethodName := ⟨RX2, "forget", "()V"⟩
abbrev cX2_find : ByteArray := prog_4_method_5_code
def yX2_find : MethodName := ⟨RX2, "find", "(ILRidgeBureau$Sheet;LRidgeBureau$Sheet;I)V"⟩
abbrev cX2_recall : ByteArray := prog_4_method_6_code
def yX2_recall : MethodName := ⟨RX2, "recall", "(I)V"⟩
abbrev cX2_keep : ByteArray := prog_4_method_7_code
def yX2_keep : MethodName := ⟨RX2, "keep", "(I)V"⟩
abbrev cX2_take : ByteArray := prog_4_method_8_code
def yX2_take : MethodName := ⟨RX2, "take", "(IIIII)V"⟩
abbrev cX2_tryLay : ByteArray := prog_4_method_9_code
def yX2_tryLay : MethodName := ⟨RX2, "tryLay", "(LRidgeBureau$Sheet;IIII)V"⟩
abbrev cX2_linkMates : ByteArray := prog_4_method_10_code
def yX2_linkMates : MethodName := ⟨RX2, "linkMates", "(LRidgeBureau$Sheet;III)I"⟩
abbrev cX2_pair : ByteArray := prog_4_method_11_code
def yX2_pair : MethodName := ⟨RX2, "pair", "(II)Z"⟩
abbrev cX2_countAgainst : ByteArray := prog_4_method_12_code
def yX2_countAgainst : MethodName := ⟨RX2, "countAgainst", "(LRidgeBureau$Sheet;II)I"⟩
abbrev cX2_isBetter : ByteArray := prog_4_method_13_code
def yX2_isBetter : MethodName := ⟨RX2, "isBetter", "(IIIII)Z"⟩
def RX3 : String := "RidgeBureau$Mark"
def TX3 : u_T := fun k => match k with
  | 0 => ("RidgeBureau$Mark", "sheet", "LRidgeBureau$Sheet;", true)
  | 1 => ("RidgeBureau$Mark", "isGrave", "Z", false)
  | _ => ("RidgeBureau$Mark", "cameOn", "I", false)
def tyX3 : Nat → FieldType := fun k => match k with
  | 0 => .object "RidgeBureau$Sheet"
  | 1 => .boolean
  | _ => .int
abbrev wsX30 : List Cond := u_ws RX3 TX3 3
theorem nmX3 : ∀ a, a < 3 → ∀ b, b < 3 → a ≠ b → (TX3 a).2.1 ≠ (TX3 b).2.1 := by decide +kernel
theorem tyX3_ok : ∀ k, k < 3 → parseFieldDescriptor (TX3 k).2.2.1 = some (tyX3 k) := by decide +kernel
abbrev cX3_init : ByteArray := prog_5_method_1_code
def yX3_init : MethodName := ⟨RX3, "<init>", "()V"⟩
abbrev cX3_copyFrom : ByteArray := prog_5_method_2_code
def yX3_copyFrom : MethodName := ⟨RX3, "copyFrom", "(LRidgeBureau$Mark;)V"⟩
def RX4 : String := "RidgeBureau$Print"
def TX4 : u_T := fun k => match k with
  | 0 => ("RidgeBureau$Print", "cells", "[I", true)
  | 1 => ("RidgeBureau$Print", "sheet", "LRidgeBureau$Sheet;", true)
  | 2 => ("RidgeBureau$Print", "itsPattern", "I", false)
  | 3 => ("RidgeBureau$Print", "itsRidges", "I", false)
  | _ => ("RidgeBureau$Print", "itsClass", "I", false)
def tyX4 : Nat → FieldType := fun k => match k with
  | 0 => .array .int
  | 1 => .object "RidgeBureau$Sheet"
  | 2 => .int
  | 3 => .int
  | _ => .int
abbrev wsX40 : List Cond := u_ws RX4 TX4 5
theorem nmX4 : ∀ a, a < 5 → ∀ b, b < 5 → a ≠ b → (TX4 a).2.1 ≠ (TX4 b).2.1 := by decide +kernel
theorem tyX4_ok : ∀ k, k < 5 → parseFieldDescriptor (TX4 k).2.2.1 = some (tyX4 k) := by decide +kernel
abbrev cX4_init : ByteArray := prog_6_method_1_code
def yX4_init : MethodName := ⟨RX4, "<init>", "()V"⟩
abbrev cX4_readField : ByteArray := prog_6_method_2_code
def yX4_readField : MethodName := ⟨RX4, "readField", "(LRidgeBureau$Tape;)Z"⟩
abbrev cX4_directionBy : ByteArray := prog_6_method_3_code
def yX4_directionBy : MethodName := ⟨RX4, "directionBy", "(I)I"⟩
abbrev cX4_settle : ByteArray := prog_6_method_4_code
def yX4_settle : MethodName := ⟨RX4, "settle", "()V"⟩
abbrev cX4_turnAround : ByteArray := prog_6_method_5_code
def yX4_turnAround : MethodName := ⟨RX4, "turnAround", "(I)I"⟩
abbrev cX4_step : ByteArray := prog_6_method_6_code
def yX4_step : MethodName := ⟨RX4, "step", "(II)I"⟩
abbrev cX4_direction : ByteArray := prog_6_method_7_code
def yX4_direction : MethodName := ⟨RX4, "direction", "(II)I"⟩
abbrev cX4_cornerOf : ByteArray := prog_6_method_8_code
def yX4_cornerOf : MethodName := ⟨RX4, "cornerOf", "(II)I"⟩
abbrev cX4_findPattern : ByteArray := prog_6_method_9_code
def yX4_findPattern : MethodName := ⟨RX4, "findPattern", "()I"⟩
abbrev cX4_countRidges : ByteArray := prog_6_method_10_code
def yX4_countRidges : MethodName := ⟨RX4, "countRidges", "()I"⟩
abbrev cX4_ridgesBy : ByteArray := prog_6_method_11_code
def yX4_ridgesBy : MethodName := ⟨RX4, "ridgesBy", "(I[I)I"⟩
abbrev cX4_findClass : ByteArray := prog_6_method_12_code
def yX4_findClass : MethodName := ⟨RX4, "findClass", "()I"⟩
abbrev cX4_copyFrom : ByteArray := prog_6_method_13_code
def yX4_copyFrom : MethodName := ⟨RX4, "copyFrom", "(LRidgeBureau$Print;)V"⟩
def RX5 : String := "RidgeBureau$RuleText"
def TX5 : u_T := fun k => match k with
  | 0 => ("RidgeBureau$RuleText", "from", "I", false)
  | 1 => ("RidgeBureau$RuleText", "rules", "I", false)
  | 2 => ("RidgeBureau$RuleText", "used", "I", false)
  | 3 => ("RidgeBureau$RuleText", "kinds", "[I", true)
  | 4 => ("RidgeBureau$RuleText", "numbers", "[I", true)
  | 5 => ("RidgeBureau$RuleText", "starts", "[I", true)
  | 6 => ("RidgeBureau$RuleText", "ends", "[I", true)
  | _ => ("RidgeBureau$RuleText", "code", "[I", true)
def tyX5 : Nat → FieldType := fun k => match k with
  | 0 => .int
  | 1 => .int
  | 2 => .int
  | 3 => .array .int
  | 4 => .array .int
  | 5 => .array .int
  | 6 => .array .int
  | _ => .array .int
abbrev wsX50 : List Cond := u_ws RX5 TX5 8
theorem nmX5 : ∀ a, a < 8 → ∀ b, b < 8 → a ≠ b → (TX5 a).2.1 ≠ (TX5 b).2.1 := by decide +kernel
theorem tyX5_ok : ∀ k, k < 8 → parseFieldDescriptor (TX5 k).2.2.1 = some (tyX5 k) := by decide +kernel
abbrev cX5_init : ByteArray := prog_7_method_1_code
def yX5_init : MethodName := ⟨RX5, "<init>", "()V"⟩
abbrev cX5_readRules : ByteArray := prog_7_method_2_code
def yX5_readRules : MethodName := ⟨RX5, "readRules", "(LRidgeBureau$Tape;)Z"⟩
abbrev cX5_readRule : ByteArray := prog_7_method_3_code
def yX5_readRule : MethodName := ⟨RX5, "readRule", "(LRidgeBureau$Tape;)Z"⟩
abbrev cX5_takeNumberOf : ByteArray := prog_7_method_4_code
def yX5_takeNumberOf : MethodName := ⟨RX5, "takeNumberOf", "(ILRidgeBureau$Tape;)I"⟩
abbrev cX5_readAny : ByteArray := prog_7_method_5_code
def yX5_readAny : MethodName := ⟨RX5, "readAny", "(LRidgeBureau$Tape;I)Z"⟩
abbrev cX5_readAll : ByteArray := prog_7_method_6_code
def yX5_readAll : MethodName := ⟨RX5, "readAll", "(LRidgeBureau$Tape;I)Z"⟩
abbrev cX5_readAtom : ByteArray := prog_7_method_7_code
def yX5_readAtom : MethodName := ⟨RX5, "readAtom", "(LRidgeBureau$Tape;I)Z"⟩
abbrev cX5_readDeeper : ByteArray := prog_7_method_8_code
def yX5_readDeeper : MethodName := ⟨RX5, "readDeeper", "(LRidgeBureau$Tape;I)Z"⟩
abbrev cX5_emit : ByteArray := prog_7_method_9_code
def yX5_emit : MethodName := ⟨RX5, "emit", "(III)Z"⟩
abbrev cX5_holds : ByteArray := prog_7_method_10_code
def yX5_holds : MethodName := ⟨RX5, "holds", "(ILRidgeBureau$Facts;)Z"⟩
abbrev cX5_firstHolding : ByteArray := prog_7_method_11_code
def yX5_firstHolding : MethodName := ⟨RX5, "firstHolding", "(ILRidgeBureau$Facts;)I"⟩
abbrev cX5_decidingRule : ByteArray := prog_7_method_12_code
def yX5_decidingRule : MethodName := ⟨RX5, "decidingRule", "(LRidgeBureau$Facts;)I"⟩
abbrev cX5_verdictBy : ByteArray := prog_7_method_13_code
def yX5_verdictBy : MethodName := ⟨RX5, "verdictBy", "(I)I"⟩
abbrev cX5_lastNumber : ByteArray := prog_7_method_14_code
def yX5_lastNumber : MethodName := ⟨RX5, "lastNumber", "(II)I"⟩
abbrev cX5_hasKind : ByteArray := prog_7_method_15_code
def yX5_hasKind : MethodName := ⟨RX5, "hasKind", "(I)Z"⟩
abbrev cX5_keptBy : ByteArray := prog_7_method_16_code
def yX5_keptBy : MethodName := ⟨RX5, "keptBy", "(LRidgeBureau$Facts;)I"⟩
abbrev cX5_copyFrom : ByteArray := prog_7_method_17_code
def yX5_copyFrom : MethodName := ⟨RX5, "copyFrom", "(LRidgeBureau$RuleText;)V"⟩
def RX6 : String := "RidgeBureau$Sheet"
def TX6 : u_T := fun k => match k with
  | 0 => ("RidgeBureau$Sheet", "x", "[I", true)
  | 1 => ("RidgeBureau$Sheet", "y", "[I", true)
  | 2 => ("RidgeBureau$Sheet", "kinds", "[I", true)
  | 3 => ("RidgeBureau$Sheet", "headings", "[I", true)
  | 4 => ("RidgeBureau$Sheet", "points", "I", false)
  | 5 => ("RidgeBureau$Sheet", "fromX", "I", false)
  | 6 => ("RidgeBureau$Sheet", "fromY", "I", false)
  | 7 => ("RidgeBureau$Sheet", "toX", "I", false)
  | _ => ("RidgeBureau$Sheet", "toY", "I", false)
def tyX6 : Nat → FieldType := fun k => match k with
  | 0 => .array .int
  | 1 => .array .int
  | 2 => .array .int
  | 3 => .array .int
  | 4 => .int
  | 5 => .int
  | 6 => .int
  | 7 => .int
  | _ => .int
abbrev wsX60 : List Cond := u_ws RX6 TX6 9
theorem nmX6 : ∀ a, a < 9 → ∀ b, b < 9 → a ≠ b → (TX6 a).2.1 ≠ (TX6 b).2.1 := by decide +kernel
theorem tyX6_ok : ∀ k, k < 9 → parseFieldDescriptor (TX6 k).2.2.1 = some (tyX6 k) := by decide +kernel
abbrev cX6_init : ByteArray := prog_8_method_1_code
def yX6_init : MethodName := ⟨RX6, "<init>", "()V"⟩
abbrev cX6_begin : ByteArray := prog_8_method_2_code
def yX6_begin : MethodName := ⟨RX6, "begin", "(IIII)V"⟩
abbrev cX6_add : ByteArray := prog_8_method_3_code
def yX6_add : MethodName := ⟨RX6, "add", "(IIII)I"⟩
abbrev cX6_isClear : ByteArray := prog_8_method_4_code
def yX6_isClear : MethodName := ⟨RX6, "isClear", "(II)Z"⟩
abbrev cX6_turnFrom : ByteArray := prog_8_method_5_code
def yX6_turnFrom : MethodName := ⟨RX6, "turnFrom", "(LRidgeBureau$Sheet;I)V"⟩
abbrev cX6_turnedX : ByteArray := prog_8_method_6_code
def yX6_turnedX : MethodName := ⟨RX6, "turnedX", "(III)I"⟩
abbrev cX6_turnedY : ByteArray := prog_8_method_7_code
def yX6_turnedY : MethodName := ⟨RX6, "turnedY", "(III)I"⟩
abbrev cX6_copyFrom : ByteArray := prog_8_method_8_code
def yX6_copyFrom : MethodName := ⟨RX6, "copyFrom", "(LRidgeBureau$Sheet;)V"⟩
def RX7 : String := "RidgeBureau$State"
def TX7 : u_T := fun k => match k with
  | 0 => ("RidgeBureau$State", "today", "I", false)
  | 1 => ("RidgeBureau$State", "slackNow", "I", false)
  | 2 => ("RidgeBureau$State", "deskNow", "I", false)
  | 3 => ("RidgeBureau$State", "comparisons", "I", false)
  | 4 => ("RidgeBureau$State", "printCount", "I", false)
  | 5 => ("RidgeBureau$State", "markCount", "I", false)
  | 6 => ("RidgeBureau$State", "cardCount", "I", false)
  | 7 => ("RidgeBureau$State", "textCount", "I", false)
  | 8 => ("RidgeBureau$State", "prints", "[LRidgeBureau$Print;", true)
  | 9 => ("RidgeBureau$State", "marks", "[LRidgeBureau$Mark;", true)
  | 10 => ("RidgeBureau$State", "cards", "[LRidgeBureau$Card;", true)
  | 11 => ("RidgeBureau$State", "texts", "[LRidgeBureau$RuleText;", true)
  | 12 => ("RidgeBureau$State", "noText", "LRidgeBureau$RuleText;", true)
  | 13 => ("RidgeBureau$State", "sayings", "LRidgeBureau$Table;", true)
  | _ => ("RidgeBureau$State", "hits", "LRidgeBureau$Table;", true)
def tyX7 : Nat → FieldType := fun k => match k with
  | 0 => .int
  | 1 => .int
  | 2 => .int
  | 3 => .int
  | 4 => .int
  | 5 => .int
  | 6 => .int
  | 7 => .int
  | 8 => .array (.object "RidgeBureau$Print")
  | 9 => .array (.object "RidgeBureau$Mark")
  | 10 => .array (.object "RidgeBureau$Card")
  | 11 => .array (.object "RidgeBureau$RuleText")
  | 12 => .object "RidgeBureau$RuleText"
  | 13 => .object "RidgeBureau$Table"
  | _ => .object "RidgeBureau$Table"
abbrev wsX70 : List Cond := u_ws RX7 TX7 15
theorem nmX7 : ∀ a, a < 15 → ∀ b, b < 15 → a ≠ b → (TX7 a).2.1 ≠ (TX7 b).2.1 := by decide +kernel
theorem tyX7_ok : ∀ k, k < 15 → parseFieldDescriptor (TX7 k).2.2.1 = some (tyX7 k) := by decide +kernel
abbrev cX7_init : ByteArray := prog_9_method_1_code
def yX7_init : MethodName := ⟨RX7, "<init>", "()V"⟩
abbrev cX7_textOn : ByteArray := prog_9_method_2_code
def yX7_textOn : MethodName := ⟨RX7, "textOn", "(I)LRidgeBureau$RuleText;"⟩
abbrev cX7_isPrint : ByteArray := prog_9_method_3_code
def yX7_isPrint : MethodName := ⟨RX7, "isPrint", "(I)Z"⟩
abbrev cX7_isMark : ByteArray := prog_9_method_4_code
def yX7_isMark : MethodName := ⟨RX7, "isMark", "(I)Z"⟩
abbrev cX7_isCard : ByteArray := prog_9_method_5_code
def yX7_isCard : MethodName := ⟨RX7, "isCard", "(I)Z"⟩
abbrev cX7_isFinger : ByteArray := prog_9_method_6_code
def yX7_isFinger : MethodName := ⟨RX7, "isFinger", "(I)Z"⟩
abbrev cX7_isInFile : ByteArray := prog_9_method_7_code
def yX7_isInFile : MethodName := ⟨RX7, "isInFile", "(I)Z"⟩
abbrev cX7_printAt : ByteArray := prog_9_method_8_code
def yX7_printAt : MethodName := ⟨RX7, "printAt", "(II)I"⟩
abbrev cX7_shownClass : ByteArray := prog_9_method_9_code
def yX7_shownClass : MethodName := ⟨RX7, "shownClass", "(II)I"⟩
abbrev cX7_countInFile : ByteArray := prog_9_method_10_code
def yX7_countInFile : MethodName := ⟨RX7, "countInFile", "()I"⟩
abbrev cX7_countPrints : ByteArray := prog_9_method_11_code
def yX7_countPrints : MethodName := ⟨RX7, "countPrints", "(I)I"⟩
abbrev cX7_countClass : ByteArray := prog_9_method_12_code
def yX7_countClass : MethodName := ⟨RX7, "countClass", "(II)I"⟩
abbrev cX7_isLeft : ByteArray := prog_9_method_13_code
def yX7_isLeft : MethodName := ⟨RX7, "isLeft", "(III)Z"⟩
abbrev cX7_classOf : ByteArray := prog_9_method_14_code
def yX7_classOf : MethodName := ⟨RX7, "classOf", "(III)I"⟩
abbrev cX7_readingOf : ByteArray := prog_9_method_15_code
def yX7_readingOf : MethodName := ⟨RX7, "readingOf", "(II)I"⟩
abbrev cX7_fillReadings : ByteArray := prog_9_method_16_code
def yX7_fillReadings : MethodName := ⟨RX7, "fillReadings", "(I[I)I"⟩
abbrev cX7_copyFrom : ByteArray := prog_9_method_17_code
def yX7_copyFrom : MethodName := ⟨RX7, "copyFrom", "(LRidgeBureau$State;)V"⟩
def RX8 : String := "RidgeBureau$Table"
def TX8 : u_T := fun k => match k with
  | 0 => ("RidgeBureau$Table", "most", "I", true)
  | 1 => ("RidgeBureau$Table", "width", "I", true)
  | 2 => ("RidgeBureau$Table", "numbers", "[I", true)
  | _ => ("RidgeBureau$Table", "rows", "I", false)
def tyX8 : Nat → FieldType := fun k => match k with
  | 0 => .int
  | 1 => .int
  | 2 => .array .int
  | _ => .int
abbrev wsX80 : List Cond := u_ws RX8 TX8 4
theorem nmX8 : ∀ a, a < 4 → ∀ b, b < 4 → a ≠ b → (TX8 a).2.1 ≠ (TX8 b).2.1 := by decide +kernel
theorem tyX8_ok : ∀ k, k < 4 → parseFieldDescriptor (TX8 k).2.2.1 = some (tyX8 k) := by decide +kernel
abbrev cX8_init : ByteArray := prog_10_method_1_code
def yX8_init : MethodName := ⟨RX8, "<init>", "(II)V"⟩
abbrev cX8_isFull : ByteArray := prog_10_method_2_code
def yX8_isFull : MethodName := ⟨RX8, "isFull", "()Z"⟩
abbrev cX8_open : ByteArray := prog_10_method_3_code
def yX8_open : MethodName := ⟨RX8, "open", "()I"⟩
abbrev cX8_hasCell : ByteArray := prog_10_method_4_code
def yX8_hasCell : MethodName := ⟨RX8, "hasCell", "(II)Z"⟩
abbrev cX8_at : ByteArray := prog_10_method_5_code
def yX8_at : MethodName := ⟨RX8, "at", "(II)I"⟩
abbrev cX8_put : ByteArray := prog_10_method_6_code
def yX8_put : MethodName := ⟨RX8, "put", "(III)V"⟩
abbrev cX8_countOf : ByteArray := prog_10_method_7_code
def yX8_countOf : MethodName := ⟨RX8, "countOf", "(II)I"⟩
abbrev cX8_copyFrom : ByteArray := prog_10_method_8_code
def yX8_copyFrom : MethodName := ⟨RX8, "copyFrom", "(LRidgeBureau$Table;)V"⟩
def RX9 : String := "RidgeBureau$Tape"
def TX9 : u_T := fun k => match k with
  | 0 => ("RidgeBureau$Tape", "bytes", "[I", true)
  | 1 => ("RidgeBureau$Tape", "length", "I", false)
  | 2 => ("RidgeBureau$Tape", "fault", "I", false)
  | 3 => ("RidgeBureau$Tape", "tokens", "[I", true)
  | 4 => ("RidgeBureau$Tape", "starts", "[I", true)
  | 5 => ("RidgeBureau$Tape", "values", "[I", true)
  | 6 => ("RidgeBureau$Tape", "tokenCount", "I", false)
  | _ => ("RidgeBureau$Tape", "place", "I", false)
def tyX9 : Nat → FieldType := fun k => match k with
  | 0 => .array .int
  | 1 => .int
  | 2 => .int
  | 3 => .array .int
  | 4 => .array .int
  | 5 => .array .int
  | 6 => .int
  | _ => .int
abbrev wsX90 : List Cond := u_ws RX9 TX9 8
theorem nmX9 : ∀ a, a < 8 → ∀ b, b < 8 → a ≠ b → (TX9 a).2.1 ≠ (TX9 b).2.1 := by decide +kernel
theorem tyX9_ok : ∀ k, k < 8 → parseFieldDescriptor (TX9 k).2.2.1 = some (tyX9 k) := by decide +kernel
abbrev cX9_init : ByteArray := prog_11_method_1_code
def yX9_init : MethodName := ⟨RX9, "<init>", "()V"⟩
abbrev cX9_hasRoom : ByteArray := prog_11_method_2_code
def yX9_hasRoom : MethodName := ⟨RX9, "hasRoom", "()Z"⟩
abbrev cX9_append : ByteArray := prog_11_method_3_code
def yX9_append : MethodName := ⟨RX9, "append", "(I)V"⟩
abbrev cX9_failAt : ByteArray := prog_11_method_4_code
def yX9_failAt : MethodName := ⟨RX9, "failAt", "(I)Z"⟩
abbrev cX9_fail : ByteArray := prog_11_method_5_code
def yX9_fail : MethodName := ⟨RX9, "fail", "()Z"⟩
abbrev cX9_scan : ByteArray := prog_11_method_6_code
def yX9_scan : MethodName := ⟨RX9, "scan", "()V"⟩
abbrev cX9_goesOn : ByteArray := prog_11_method_7_code
def yX9_goesOn : MethodName := ⟨RX9, "goesOn", "(II)Z"⟩
abbrev cX9_isLetter : ByteArray := prog_11_method_8_code
def yX9_isLetter : MethodName := ⟨RX9, "isLetter", "(I)Z"⟩
abbrev cX9_isDigit : ByteArray := prog_11_method_9_code
def yX9_isDigit : MethodName := ⟨RX9, "isDigit", "(I)Z"⟩
abbrev cX9_addToken : ByteArray := prog_11_method_10_code
def yX9_addToken : MethodName := ⟨RX9, "addToken", "(II)V"⟩
abbrev cX9_wordToken : ByteArray := prog_11_method_11_code
def yX9_wordToken : MethodName := ⟨RX9, "wordToken", "(II)I"⟩
abbrev cX9_isWordAt : ByteArray := prog_11_method_12_code
def yX9_isWordAt : MethodName := ⟨RX9, "isWordAt", "(III)Z"⟩
abbrev cX9_valueOf : ByteArray := prog_11_method_13_code
def yX9_valueOf : MethodName := ⟨RX9, "valueOf", "(II)I"⟩
abbrev cX9_token : ByteArray := prog_11_method_14_code
def yX9_token : MethodName := ⟨RX9, "token", "()I"⟩
abbrev cX9_take : ByteArray := prog_11_method_15_code
def yX9_take : MethodName := ⟨RX9, "take", "(I)Z"⟩
abbrev cX9_takeNumber : ByteArray := prog_11_method_16_code
def yX9_takeNumber : MethodName := ⟨RX9, "takeNumber", "(II)I"⟩
def RX10 : String := "RidgeBureau"
def TX10 : u_T := fun k => match k with
  | 0 => ("RidgeBureau", "tape", "LRidgeBureau$Tape;", true)
  | 1 => ("RidgeBureau", "now", "LRidgeBureau$State;", true)
  | 2 => ("RidgeBureau", "imageState", "LRidgeBureau$State;", true)
  | 3 => ("RidgeBureau", "hasImage", "Z", false)
  | 4 => ("RidgeBureau", "lays", "LRidgeBureau$Lays;", true)
  | 5 => ("RidgeBureau", "facts", "LRidgeBureau$Facts;", true)
  | 6 => ("RidgeBureau", "draftPrint", "LRidgeBureau$Print;", true)
  | 7 => ("RidgeBureau", "draftRules", "LRidgeBureau$RuleText;", true)
  | 8 => ("RidgeBureau", "readings", "[I", true)
  | 9 => ("RidgeBureau", "otherReadings", "[I", true)
  | 10 => ("RidgeBureau", "lastSaid", "[I", true)
  | _ => ("RidgeBureau", "leaders", "[I", true)
def tyX10 : Nat → FieldType := fun k => match k with
  | 0 => .object "RidgeBureau$Tape"
  | 1 => .object "RidgeBureau$State"
  | 2 => .object "RidgeBureau$State"
  | 3 => .boolean
  | 4 => .object "RidgeBureau$Lays"
  | 5 => .object "RidgeBureau$Facts"
  | 6 => .object "RidgeBureau$Print"
  | 7 => .object "RidgeBureau$RuleText"
  | 8 => .array .int
  | 9 => .array .int
  | 10 => .array .int
  | _ => .array .int
abbrev wsX100 : List Cond := u_ws RX10 TX10 12
theorem nmX10 : ∀ a, a < 12 → ∀ b, b < 12 → a ≠ b → (TX10 a).2.1 ≠ (TX10 b).2.1 := by decide +kernel
theorem tyX10_ok : ∀ k, k < 12 → parseFieldDescriptor (TX10 k).2.2.1 = some (tyX10 k) := by decide +kernel
abbrev cX10_init : ByteArray := prog_1_method_1_code
def yX10_init : MethodName := ⟨RX10, "<init>", "()V"⟩
abbrev cX10_feed : ByteArray := prog_1_method_2_code
def yX10_feed : MethodName := ⟨RX10, "feed", "(IIIII)I"⟩
abbrev cX10_end : ByteArray := prog_1_method_3_code
def yX10_end : MethodName := ⟨RX10, "end", "(I)Z"⟩
abbrev cX10_fault : ByteArray := prog_1_method_4_code
def yX10_fault : MethodName := ⟨RX10, "fault", "()I"⟩
abbrev cX10_print : ByteArray := prog_1_method_5_code
def yX10_print : MethodName := ⟨RX10, "print", "()I"⟩
abbrev cX10_field : ByteArray := prog_1_method_6_code
def yX10_field : MethodName := ⟨RX10, "field", "(II)I"⟩
abbrev cX10_turn : ByteArray := prog_1_method_7_code
def yX10_turn : MethodName := ⟨RX10, "turn", "(II)I"⟩
abbrev cX10_pattern : ByteArray := prog_1_method_8_code
def yX10_pattern : MethodName := ⟨RX10, "pattern", "(I)I"⟩
abbrev cX10_singular : ByteArray := prog_1_method_9_code
def yX10_singular : MethodName := ⟨RX10, "singular", "(IIZ)I"⟩
abbrev cX10_ridges : ByteArray := prog_1_method_10_code
def yX10_ridges : MethodName := ⟨RX10, "ridges", "(I)I"⟩
abbrev cX10_point : ByteArray := prog_1_method_11_code
def yX10_point : MethodName := ⟨RX10, "point", "(IIIII)I"⟩
abbrev cX10_mark : ByteArray := prog_1_method_12_code
def yX10_mark : MethodName := ⟨RX10, "mark", "(IIIIZ)I"⟩
abbrev cX10_spot : ByteArray := prog_1_method_13_code
def yX10_spot : MethodName := ⟨RX10, "spot", "(IIIII)I"⟩
abbrev cX10_slack : ByteArray := prog_1_method_14_code
def yX10_slack : MethodName := ⟨RX10, "slack", "(I)V"⟩
abbrev cX10_lay : ByteArray := prog_1_method_15_code
def yX10_lay : MethodName := ⟨RX10, "lay", "(III)I"⟩
abbrev cX10_card : ByteArray := prog_1_method_16_code
def yX10_card : MethodName := ⟨RX10, "card", "(I)I"⟩
abbrev cX10_finger : ByteArray := prog_1_method_17_code
def yX10_finger : MethodName := ⟨RX10, "finger", "(III)Z"⟩
abbrev cX10_doubt : ByteArray := prog_1_method_18_code
def yX10_doubt : MethodName := ⟨RX10, "doubt", "(III)Z"⟩
abbrev cX10_kind : ByteArray := prog_1_method_19_code
def yX10_kind : MethodName := ⟨RX10, "kind", "(II)I"⟩
abbrev cX10_number : ByteArray := prog_1_method_20_code
def yX10_number : MethodName := ⟨RX10, "number", "(IZ)I"⟩
abbrev cX10_drawers : ByteArray := prog_1_method_21_code
def yX10_drawers : MethodName := ⟨RX10, "drawers", "(I)I"⟩
abbrev cX10_like : ByteArray := prog_1_method_22_code
def yX10_like : MethodName := ⟨RX10, "like", "(II)I"⟩
abbrev cX10_sharesReading : ByteArray := prog_1_method_23_code
def yX10_sharesReading : MethodName := ⟨RX10, "sharesReading", "(II)Z"⟩
abbrev cX10_holds : ByteArray := prog_1_method_24_code
def yX10_holds : MethodName := ⟨RX10, "holds", "([III)Z"⟩
abbrev cX10_rules : ByteArray := prog_1_method_25_code
def yX10_rules : MethodName := ⟨RX10, "rules", "(I)I"⟩
abbrev cX10_verdict : ByteArray := prog_1_method_26_code
def yX10_verdict : MethodName := ⟨RX10, "verdict", "(III)I"⟩
abbrev cX10_why : ByteArray := prog_1_method_27_code
def yX10_why : MethodName := ⟨RX10, "why", "(III)I"⟩
abbrev cX10_decidingRule : ByteArray := prog_1_method_28_code
def yX10_decidingRule : MethodName := ⟨RX10, "decidingRule", "(III)I"⟩
abbrev cX10_say : ByteArray := prog_1_method_29_code
def yX10_say : MethodName := ⟨RX10, "say", "(IIIII)I"⟩
abbrev cX10_said : ByteArray := prog_1_method_30_code
def yX10_said : MethodName := ⟨RX10, "said", "(IIIII)I"⟩
abbrev cX10_gatherSayings : ByteArray := prog_1_method_31_code
def yX10_gatherSayings : MethodName := ⟨RX10, "gatherSayings", "(IIII)V"⟩
abbrev cX10_proved : ByteArray := prog_1_method_32_code
def yX10_proved : MethodName := ⟨RX10, "proved", "(IIII)Z"⟩
abbrev cX10_isProved : ByteArray := prog_1_method_33_code
def yX10_isProved : MethodName := ⟨RX10, "isProved", "(IIII)Z"⟩
abbrev cX10_alike : ByteArray := prog_1_method_34_code
def yX10_alike : MethodName := ⟨RX10, "alike", "(III)I"⟩
abbrev cX10_alikeFingers : ByteArray := prog_1_method_35_code
def yX10_alikeFingers : MethodName := ⟨RX10, "alikeFingers", "(III)I"⟩
abbrev cX10_arePrintsAlike : ByteArray := prog_1_method_36_code
def yX10_arePrintsAlike : MethodName := ⟨RX10, "arePrintsAlike", "(III)Z"⟩
abbrev cX10_person : ByteArray := prog_1_method_37_code
def yX10_person : MethodName := ⟨RX10, "person", "(II)I"⟩
abbrev cX10_persons : ByteArray := prog_1_method_38_code
def yX10_persons : MethodName := ⟨RX10, "persons", "(IZ)I"⟩
abbrev cX10_hasSecondName : ByteArray := prog_1_method_39_code
def yX10_hasSecondName : MethodName := ⟨RX10, "hasSecondName", "(I)Z"⟩
abbrev cX10_groupPersons : ByteArray := prog_1_method_40_code
def yX10_groupPersons : MethodName := ⟨RX10, "groupPersons", "(I)V"⟩
abbrev cX10_joinPersons : ByteArray := prog_1_method_41_code
def yX10_joinPersons : MethodName := ⟨RX10, "joinPersons", "(II)V"⟩
abbrev cX10_tell : ByteArray := prog_1_method_42_code
def yX10_tell : MethodName := ⟨RX10, "tell", "(II)Z"⟩
abbrev cX10_kept : ByteArray := prog_1_method_43_code
def yX10_kept : MethodName := ⟨RX10, "kept", "(II)I"⟩
abbrev cX10_desk : ByteArray := prog_1_method_44_code
def yX10_desk : MethodName := ⟨RX10, "desk", "(I)V"⟩
abbrev cX10_days : ByteArray := prog_1_method_45_code
def yX10_days : MethodName := ⟨RX10, "days", "(I)I"⟩
abbrev cX10_provedMarks : ByteArray := prog_1_method_46_code
def yX10_provedMarks : MethodName := ⟨RX10, "provedMarks", "()I"⟩
abbrev cX10_workDesk : ByteArray := prog_1_method_47_code
def yX10_workDesk : MethodName := ⟨RX10, "workDesk", "(I)V"⟩
abbrev cX10_compareMark : ByteArray := prog_1_method_48_code
def yX10_compareMark : MethodName := ⟨RX10, "compareMark", "(II)I"⟩
abbrev cX10_keepHit : ByteArray := prog_1_method_49_code
def yX10_keepHit : MethodName := ⟨RX10, "keepHit", "(IIII)V"⟩
abbrev cX10_strikeCards : ByteArray := prog_1_method_50_code
def yX10_strikeCards : MethodName := ⟨RX10, "strikeCards", "()V"⟩
abbrev cX10_look : ByteArray := prog_1_method_51_code
def yX10_look : MethodName := ⟨RX10, "look", "(II)I"⟩
abbrev cX10_hit : ByteArray := prog_1_method_52_code
def yX10_hit : MethodName := ⟨RX10, "hit", "(II)I"⟩
abbrev cX10_left : ByteArray := prog_1_method_53_code
def yX10_left : MethodName := ⟨RX10, "left", "(I)I"⟩
abbrev cX10_rare : ByteArray := prog_1_method_54_code
def yX10_rare : MethodName := ⟨RX10, "rare", "(IZ)J"⟩
abbrev cX10_commonDivisor : ByteArray := prog_1_method_55_code
def yX10_commonDivisor : MethodName := ⟨RX10, "commonDivisor", "(JJ)J"⟩
abbrev cX10_tear : ByteArray := prog_1_method_56_code
def yX10_tear : MethodName := ⟨RX10, "tear", "(II)I"⟩
abbrev cX10_check : ByteArray := prog_1_method_57_code
def yX10_check : MethodName := ⟨RX10, "check", "()I"⟩
abbrev cX10_firstRow : ByteArray := prog_1_method_58_code
def yX10_firstRow : MethodName := ⟨RX10, "firstRow", "()I"⟩
abbrev cX10_image : ByteArray := prog_1_method_59_code
def yX10_image : MethodName := ⟨RX10, "image", "()V"⟩
abbrev cX10_back : ByteArray := prog_1_method_60_code
def yX10_back : MethodName := ⟨RX10, "back", "()Z"⟩
abbrev cX10_count : ByteArray := prog_1_method_61_code
def yX10_count : MethodName := ⟨RX10, "count", "(I)I"⟩
abbrev cX10_needPrint : ByteArray := prog_1_method_62_code
def yX10_needPrint : MethodName := ⟨RX10, "needPrint", "(I)V"⟩
abbrev cX10_needMark : ByteArray := prog_1_method_63_code
def yX10_needMark : MethodName := ⟨RX10, "needMark", "(I)V"⟩
abbrev cX10_needCard : ByteArray := prog_1_method_64_code
def yX10_needCard : MethodName := ⟨RX10, "needCard", "(I)V"⟩
abbrev cX10_needFinger : ByteArray := prog_1_method_65_code
def yX10_needFinger : MethodName := ⟨RX10, "needFinger", "(I)V"⟩
abbrev cX10_needSaying : ByteArray := prog_1_method_66_code
def yX10_needSaying : MethodName := ⟨RX10, "needSaying", "(IIII)V"⟩
abbrev cX10_needPoint : ByteArray := prog_1_method_67_code
def yX10_needPoint : MethodName := ⟨RX10, "needPoint", "(IIII)V"⟩
abbrev cX10_isSpan : ByteArray := prog_1_method_68_code
def yX10_isSpan : MethodName := ⟨RX10, "isSpan", "(II)Z"⟩
abbrev cX10_copy : ByteArray := prog_1_method_69_code
def yX10_copy : MethodName := ⟨RX10, "copy", "([I[I)V"⟩
def RX11 : String := "RidgeBureauModel"
def TX11 : u_T := fun k => match k with
  | 0 => ("RidgeBureauModel", "thrown", "I", false)
  | 1 => ("RidgeBureauModel", "world", "[I", true)
  | 2 => ("RidgeBureauModel", "image", "[I", true)
  | 3 => ("RidgeBureauModel", "hasImage", "Z", false)
  | 4 => ("RidgeBureauModel", "tape", "[B", true)
  | 5 => ("RidgeBureauModel", "taped", "I", false)
  | 6 => ("RidgeBureauModel", "point", "I", false)
  | 7 => ("RidgeBureauModel", "end", "I", false)
  | 8 => ("RidgeBureauModel", "begin", "I", false)
  | 9 => ("RidgeBureauModel", "deep", "I", false)
  | 10 => ("RidgeBureauModel", "faultAt", "I", false)
  | 11 => ("RidgeBureauModel", "five", "[I", true)
  | 12 => ("RidgeBureauModel", "draft", "[I", true)
  | 13 => ("RidgeBureauModel", "bestPairs", "I", false)
  | 14 => ("RidgeBureauModel", "bestAgainst", "I", false)
  | 15 => ("RidgeBureauModel", "bestTurn", "I", false)
  | 16 => ("RidgeBureauModel", "bestX", "I", false)
  | 17 => ("RidgeBureauModel", "bestY", "I", false)
  | 18 => ("RidgeBureauModel", "may", "[I", true)
  | 19 => ("RidgeBureauModel", "holder", "[I", true)
  | 20 => ("RidgeBureauModel", "tried", "I", false)
  | 21 => ("RidgeBureauModel", "readings", "[J", true)
  | 22 => ("RidgeBureauModel", "others", "[J", true)
  | 23 => ("RidgeBureauModel", "steps", "I", false)
  | 24 => ("RidgeBureauModel", "tags", "[Z", true)
  | 25 => ("RidgeBureauModel", "facts", "[I", true)
  | 26 => ("RidgeBureauModel", "met", "[Z", true)
  | _ => ("RidgeBureauModel", "least", "[I", true)
def tyX11 : Nat → FieldType := fun k => match k with
  | 0 => .int
  | 1 => .array .int
  | 2 => .array .int
  | 3 => .boolean
  | 4 => .array .byte
  | 5 => .int
  | 6 => .int
  | 7 => .int
  | 8 => .int
  | 9 => .int
  | 10 => .int
  | 11 => .array .int
  | 12 => .array .int
  | 13 => .int
  | 14 => .int
  | 15 => .int
  | 16 => .int
  | 17 => .int
  | 18 => .array .int
  | 19 => .array .int
  | 20 => .int
  | 21 => .array .long
  | 22 => .array .long
  | 23 => .int
  | 24 => .array .boolean
  | 25 => .array .int
  | 26 => .array .boolean
  | _ => .array .int
abbrev wsX110 : List Cond := u_ws RX11 TX11 28
theorem nmX11 : ∀ a, a < 28 → ∀ b, b < 28 → a ≠ b → (TX11 a).2.1 ≠ (TX11 b).2.1 := by decide +kernel
theorem tyX11_ok : ∀ k, k < 28 → parseFieldDescriptor (TX11 k).2.2.1 = some (tyX11 k) := by decide +kernel
abbrev cX11_thrown : ByteArray := prog_13_method_1_code
def yX11_thrown : MethodName := ⟨RX11, "thrown", "()I"⟩
abbrev cX11_throwsIf : ByteArray := prog_13_method_2_code
def yX11_throwsIf : MethodName := ⟨RX11, "throwsIf", "(ZI)Z"⟩
abbrev cX11_in : ByteArray := prog_13_method_3_code
def yX11_in : MethodName := ⟨RX11, "in", "(III)Z"⟩
abbrev cX11_init : ByteArray := prog_13_method_4_code
def yX11_init : MethodName := ⟨RX11, "<init>", "()V"⟩
abbrev cX11_today : ByteArray := prog_13_method_5_code
def yX11_today : MethodName := ⟨RX11, "today", "()I"⟩
abbrev cX11_image : ByteArray := prog_13_method_6_code
def yX11_image : MethodName := ⟨RX11, "image", "()V"⟩
abbrev cX11_back : ByteArray := prog_13_method_7_code
def yX11_back : MethodName := ⟨RX11, "back", "()Z"⟩
abbrev cX11_feed : ByteArray := prog_13_method_8_code
def yX11_feed : MethodName := ⟨RX11, "feed", "(IIIII)I"⟩
abbrev cX11_end : ByteArray := prog_13_method_9_code
def yX11_end : MethodName := ⟨RX11, "end", "(I)Z"⟩
abbrev cX11_uses : ByteArray := prog_13_method_10_code
def yX11_uses : MethodName := ⟨RX11, "uses", "()V"⟩
abbrev cX11_isAt : ByteArray := prog_13_method_11_code
def yX11_isAt : MethodName := ⟨RX11, "isAt", "(II)Z"⟩
abbrev cX11_blanks : ByteArray := prog_13_method_12_code
def yX11_blanks : MethodName := ⟨RX11, "blanks", "()V"⟩
abbrev cX11_word : ByteArray := prog_13_method_13_code
def yX11_word : MethodName := ⟨RX11, "word", "()V"⟩
abbrev cX11_isWord : ByteArray := prog_13_method_14_code
def yX11_isWord : MethodName := ⟨RX11, "isWord", "(Ljava/lang/String;)Z"⟩
abbrev cX11_passes : ByteArray := prog_13_method_15_code
def yX11_passes : MethodName := ⟨RX11, "passes", "(Ljava/lang/String;)Z"⟩
abbrev cX11_sign : ByteArray := prog_13_method_16_code
def yX11_sign : MethodName := ⟨RX11, "sign", "(I)Z"⟩
abbrev cX11_number : ByteArray := prog_13_method_17_code
def yX11_number : MethodName := ⟨RX11, "number", "(II)I"⟩
abbrev cX11_fault : ByteArray := prog_13_method_18_code
def yX11_fault : MethodName := ⟨RX11, "fault", "()I"⟩
abbrev cX11_printAt : ByteArray := prog_13_method_19_code
def yX11_printAt : MethodName := ⟨RX11, "printAt", "(I)I"⟩
abbrev cX11_noPrint : ByteArray := prog_13_method_20_code
def yX11_noPrint : MethodName := ⟨RX11, "noPrint", "(I)Z"⟩
abbrev cX11_readField : ByteArray := prog_13_method_21_code
def yX11_readField : MethodName := ⟨RX11, "readField", "()Z"⟩
abbrev cX11_print : ByteArray := prog_13_method_22_code
def yX11_print : MethodName := ⟨RX11, "print", "()I"⟩
abbrev cX11_field : ByteArray := prog_13_method_23_code
def yX11_field : MethodName := ⟨RX11, "field", "(II)I"⟩
abbrev cX11_cellOf : ByteArray := prog_13_method_24_code
def yX11_cellOf : MethodName := ⟨RX11, "cellOf", "(III)I"⟩
abbrev cX11_around : ByteArray := prog_13_method_25_code
def yX11_around : MethodName := ⟨RX11, "around", "(IIII)I"⟩
abbrev cX11_turnOf : ByteArray := prog_13_method_26_code
def yX11_turnOf : MethodName := ⟨RX11, "turnOf", "(II)I"⟩
abbrev cX11_turn : ByteArray := prog_13_method_27_code
def yX11_turn : MethodName := ⟨RX11, "turn", "(II)I"⟩
abbrev cX11_singularOf : ByteArray := prog_13_method_28_code
def yX11_singularOf : MethodName := ⟨RX11, "singularOf", "(III)I"⟩
abbrev cX11_singular : ByteArray := prog_13_method_29_code
def yX11_singular : MethodName := ⟨RX11, "singular", "(IIZ)I"⟩
abbrev cX11_patternOf : ByteArray := prog_13_method_30_code
def yX11_patternOf : MethodName := ⟨RX11, "patternOf", "(I)I"⟩
abbrev cX11_pattern : ByteArray := prog_13_method_31_code
def yX11_pattern : MethodName := ⟨RX11, "pattern", "(I)I"⟩
abbrev cX11_alongX : ByteArray := prog_13_method_32_code
def yX11_alongX : MethodName := ⟨RX11, "alongX", "(I)I"⟩
abbrev cX11_alongY : ByteArray := prog_13_method_33_code
def yX11_alongY : MethodName := ⟨RX11, "alongY", "(I)I"⟩
abbrev cX11_ridgesOf : ByteArray := prog_13_method_34_code
def yX11_ridgesOf : MethodName := ⟨RX11, "ridgesOf", "(I)I"⟩
abbrev cX11_ridges : ByteArray := prog_13_method_35_code
def yX11_ridges : MethodName := ⟨RX11, "ridges", "(I)I"⟩
abbrev cX11_classOfPrint : ByteArray := prog_13_method_36_code
def yX11_classOfPrint : MethodName := ⟨RX11, "classOfPrint", "(I)I"⟩
abbrev cX11_noPoint : ByteArray := prog_13_method_37_code
def yX11_noPoint : MethodName := ⟨RX11, "noPoint", "(IIII)Z"⟩
abbrev cX11_adds : ByteArray := prog_13_method_38_code
def yX11_adds : MethodName := ⟨RX11, "adds", "(IIIII)I"⟩
abbrev cX11_point : ByteArray := prog_13_method_39_code
def yX11_point : MethodName := ⟨RX11, "point", "(IIIII)I"⟩
abbrev cX11_markAt : ByteArray := prog_13_method_40_code
def yX11_markAt : MethodName := ⟨RX11, "markAt", "(II)I"⟩
abbrev cX11_noMark : ByteArray := prog_13_method_41_code
def yX11_noMark : MethodName := ⟨RX11, "noMark", "(I)Z"⟩
abbrev cX11_mark : ByteArray := prog_13_method_42_code
def yX11_mark : MethodName := ⟨RX11, "mark", "(IIIIZ)I"⟩
abbrev cX11_spot : ByteArray := prog_13_method_43_code
def yX11_spot : MethodName := ⟨RX11, "spot", "(IIIII)I"⟩
abbrev cX11_slack : ByteArray := prog_13_method_44_code
def yX11_slack : MethodName := ⟨RX11, "slack", "(I)V"⟩
abbrev cX11_turnedX : ByteArray := prog_13_method_45_code
def yX11_turnedX : MethodName := ⟨RX11, "turnedX", "(III)I"⟩
abbrev cX11_turnedY : ByteArray := prog_13_method_46_code
def yX11_turnedY : MethodName := ⟨RX11, "turnedY", "(III)I"⟩
abbrev cX11_mayPair : ByteArray := prog_13_method_47_code
def yX11_mayPair : MethodName := ⟨RX11, "mayPair", "(IIIII)Z"⟩
abbrev cX11_seeks : ByteArray := prog_13_method_48_code
def yX11_seeks : MethodName := ⟨RX11, "seeks", "(II)Z"⟩
abbrev cX11_pairsOf : ByteArray := prog_13_method_49_code
def yX11_pairsOf : MethodName := ⟨RX11, "pairsOf", "(II)I"⟩
abbrev cX11_isBetween : ByteArray := prog_13_method_50_code
def yX11_isBetween : MethodName := ⟨RX11, "isBetween", "(III)Z"⟩
abbrev cX11_tries : ByteArray := prog_13_method_51_code
def yX11_tries : MethodName := ⟨RX11, "tries", "(IIIIIIIII)V"⟩
abbrev cX11_lays : ByteArray := prog_13_method_52_code
def yX11_lays : MethodName := ⟨RX11, "lays", "(IIIIII)V"⟩
abbrev cX11_laysMark : ByteArray := prog_13_method_53_code
def yX11_laysMark : MethodName := ⟨RX11, "laysMark", "(II)V"⟩
abbrev cX11_lay : ByteArray := prog_13_method_54_code
def yX11_lay : MethodName := ⟨RX11, "lay", "(III)I"⟩
abbrev cX11_cardAt : ByteArray := prog_13_method_55_code
def yX11_cardAt : MethodName := ⟨RX11, "cardAt", "(II)I"⟩
abbrev cX11_of : ByteArray := prog_13_method_56_code
def yX11_of : MethodName := ⟨RX11, "of", "(II)I"⟩
abbrev cX11_noCard : ByteArray := prog_13_method_57_code
def yX11_noCard : MethodName := ⟨RX11, "noCard", "(I)Z"⟩
abbrev cX11_noFinger : ByteArray := prog_13_method_58_code
def yX11_noFinger : MethodName := ⟨RX11, "noFinger", "(I)Z"⟩
abbrev cX11_isFiled : ByteArray := prog_13_method_59_code
def yX11_isFiled : MethodName := ⟨RX11, "isFiled", "(I)Z"⟩
abbrev cX11_card : ByteArray := prog_13_method_60_code
def yX11_card : MethodName := ⟨RX11, "card", "(I)I"⟩
abbrev cX11_comparedAt : ByteArray := prog_13_method_61_code
def yX11_comparedAt : MethodName := ⟨RX11, "comparedAt", "(III)I"⟩
abbrev cX11_finger : ByteArray := prog_13_method_62_code
def yX11_finger : MethodName := ⟨RX11, "finger", "(III)Z"⟩
abbrev cX11_doubt : ByteArray := prog_13_method_63_code
def yX11_doubt : MethodName := ⟨RX11, "doubt", "(III)Z"⟩
abbrev cX11_ownClass : ByteArray := prog_13_method_64_code
def yX11_ownClass : MethodName := ⟨RX11, "ownClass", "(III)I"⟩
abbrev cX11_classOf : ByteArray := prog_13_method_65_code
def yX11_classOf : MethodName := ⟨RX11, "classOf", "(III)I"⟩
abbrev cX11_kind : ByteArray := prog_13_method_66_code
def yX11_kind : MethodName := ⟨RX11, "kind", "(II)I"⟩
abbrev cX11_numberOf : ByteArray := prog_13_method_67_code
def yX11_numberOf : MethodName := ⟨RX11, "numberOf", "(IIZ)I"⟩
abbrev cX11_number_ : ByteArray := prog_13_method_68_code
def yX11_number_ : MethodName := ⟨RX11, "number", "(IZ)I"⟩
abbrev cX11_reads : ByteArray := prog_13_method_69_code
def yX11_reads : MethodName := ⟨RX11, "reads", "(I[J)I"⟩
abbrev cX11_drawers : ByteArray := prog_13_method_70_code
def yX11_drawers : MethodName := ⟨RX11, "drawers", "(I)I"⟩
abbrev cX11_like : ByteArray := prog_13_method_71_code
def yX11_like : MethodName := ⟨RX11, "like", "(II)I"⟩
abbrev cX11_textAt : ByteArray := prog_13_method_72_code
def yX11_textAt : MethodName := ⟨RX11, "textAt", "(I)I"⟩
abbrev cX11_ruleAt : ByteArray := prog_13_method_73_code
def yX11_ruleAt : MethodName := ⟨RX11, "ruleAt", "(II)I"⟩
abbrev cX11_emits : ByteArray := prog_13_method_74_code
def yX11_emits : MethodName := ⟨RX11, "emits", "(II)V"⟩
abbrev cX11_readAtom : ByteArray := prog_13_method_75_code
def yX11_readAtom : MethodName := ⟨RX11, "readAtom", "()Z"⟩
abbrev cX11_readAllOf : ByteArray := prog_13_method_76_code
def yX11_readAllOf : MethodName := ⟨RX11, "readAllOf", "()Z"⟩
abbrev cX11_readCond : ByteArray := prog_13_method_77_code
def yX11_readCond : MethodName := ⟨RX11, "readCond", "()Z"⟩
abbrev cX11_readRule : ByteArray := prog_13_method_78_code
def yX11_readRule : MethodName := ⟨RX11, "readRule", "(I)Z"⟩
abbrev cX11_readAll : ByteArray := prog_13_method_79_code
def yX11_readAll : MethodName := ⟨RX11, "readAll", "()I"⟩
abbrev cX11_rules : ByteArray := prog_13_method_80_code
def yX11_rules : MethodName := ⟨RX11, "rules", "(I)I"⟩
abbrev cX11_textOf : ByteArray := prog_13_method_81_code
def yX11_textOf : MethodName := ⟨RX11, "textOf", "(I)I"⟩
abbrev cX11_rulesOf : ByteArray := prog_13_method_82_code
def yX11_rulesOf : MethodName := ⟨RX11, "rulesOf", "(I)I"⟩
abbrev cX11_holds : ByteArray := prog_13_method_83_code
def yX11_holds : MethodName := ⟨RX11, "holds", "(II)Z"⟩
abbrev cX11_firstOf : ByteArray := prog_13_method_84_code
def yX11_firstOf : MethodName := ⟨RX11, "firstOf", "(II)I"⟩
abbrev cX11_lastNumber : ByteArray := prog_13_method_85_code
def yX11_lastNumber : MethodName := ⟨RX11, "lastNumber", "(III)I"⟩
abbrev cX11_looks : ByteArray := prog_13_method_86_code
def yX11_looks : MethodName := ⟨RX11, "looks", "(IIIII)V"⟩
abbrev cX11_looksAtLay : ByteArray := prog_13_method_87_code
def yX11_looksAtLay : MethodName := ⟨RX11, "looksAtLay", "(III)V"⟩
abbrev cX11_judges : ByteArray := prog_13_method_88_code
def yX11_judges : MethodName := ⟨RX11, "judges", "(I)I"⟩
abbrev cX11_verdict : ByteArray := prog_13_method_89_code
def yX11_verdict : MethodName := ⟨RX11, "verdict", "(III)I"⟩
abbrev cX11_why : ByteArray := prog_13_method_90_code
def yX11_why : MethodName := ⟨RX11, "why", "(III)I"⟩
abbrev cX11_looksAtCard : ByteArray := prog_13_method_91_code
def yX11_looksAtCard : MethodName := ⟨RX11, "looksAtCard", "(II)V"⟩
abbrev cX11_keptOf : ByteArray := prog_13_method_92_code
def yX11_keptOf : MethodName := ⟨RX11, "keptOf", "(II)I"⟩
abbrev cX11_kept : ByteArray := prog_13_method_93_code
def yX11_kept : MethodName := ⟨RX11, "kept", "(II)I"⟩
abbrev cX11_tell : ByteArray := prog_13_method_94_code
def yX11_tell : MethodName := ⟨RX11, "tell", "(II)Z"⟩
abbrev cX11_say : ByteArray := prog_13_method_95_code
def yX11_say : MethodName := ⟨RX11, "say", "(IIIII)I"⟩
abbrev cX11_saidOf : ByteArray := prog_13_method_96_code
def yX11_saidOf : MethodName := ⟨RX11, "saidOf", "(IIIII)I"⟩
abbrev cX11_said : ByteArray := prog_13_method_97_code
def yX11_said : MethodName := ⟨RX11, "said", "(IIIII)I"⟩
abbrev cX11_isProved : ByteArray := prog_13_method_98_code
def yX11_isProved : MethodName := ⟨RX11, "isProved", "(IIII)Z"⟩
abbrev cX11_proved : ByteArray := prog_13_method_99_code
def yX11_proved : MethodName := ⟨RX11, "proved", "(IIII)Z"⟩
abbrev cX11_alikeOf : ByteArray := prog_13_method_100_code
def yX11_alikeOf : MethodName := ⟨RX11, "alikeOf", "(III)I"⟩
abbrev cX11_alike : ByteArray := prog_13_method_101_code
def yX11_alike : MethodName := ⟨RX11, "alike", "(III)I"⟩
abbrev cX11_isThere : ByteArray := prog_13_method_102_code
def yX11_isThere : MethodName := ⟨RX11, "isThere", "(II)Z"⟩
abbrev cX11_joins : ByteArray := prog_13_method_103_code
def yX11_joins : MethodName := ⟨RX11, "joins", "(I)V"⟩
abbrev cX11_person : ByteArray := prog_13_method_104_code
def yX11_person : MethodName := ⟨RX11, "person", "(II)I"⟩
abbrev cX11_persons : ByteArray := prog_13_method_105_code
def yX11_persons : MethodName := ⟨RX11, "persons", "(IZ)I"⟩
abbrev cX11_desk : ByteArray := prog_13_method_106_code
def yX11_desk : MethodName := ⟨RX11, "desk", "(I)V"⟩
abbrev cX11_isWaiting : ByteArray := prog_13_method_107_code
def yX11_isWaiting : MethodName := ⟨RX11, "isWaiting", "(II)Z"⟩
abbrev cX11_isSettled : ByteArray := prog_13_method_108_code
def yX11_isSettled : MethodName := ⟨RX11, "isSettled", "(I)Z"⟩
abbrev cX11_compares : ByteArray := prog_13_method_109_code
def yX11_compares : MethodName := ⟨RX11, "compares", "(II)V"⟩
abbrev cX11_desks : ByteArray := prog_13_method_110_code
def yX11_desks : MethodName := ⟨RX11, "desks", "()V"⟩
abbrev cX11_strikes : ByteArray := prog_13_method_111_code
def yX11_strikes : MethodName := ⟨RX11, "strikes", "()V"⟩
abbrev cX11_days : ByteArray := prog_13_method_112_code
def yX11_days : MethodName := ⟨RX11, "days", "(I)I"⟩
abbrev cX11_look : ByteArray := prog_13_method_113_code
def yX11_look : MethodName := ⟨RX11, "look", "(II)I"⟩
abbrev cX11_hit : ByteArray := prog_13_method_114_code
def yX11_hit : MethodName := ⟨RX11, "hit", "(II)I"⟩
abbrev cX11_left : ByteArray := prog_13_method_115_code
def yX11_left : MethodName := ⟨RX11, "left", "(I)I"⟩
abbrev cX11_common : ByteArray := prog_13_method_116_code
def yX11_common : MethodName := ⟨RX11, "common", "(JJ)J"⟩
abbrev cX11_rare : ByteArray := prog_13_method_117_code
def yX11_rare : MethodName := ⟨RX11, "rare", "(IZ)J"⟩
abbrev cX11_rowAt : ByteArray := prog_13_method_118_code
def yX11_rowAt : MethodName := ⟨RX11, "rowAt", "(I)I"⟩
abbrev cX11_tear : ByteArray := prog_13_method_119_code
def yX11_tear : MethodName := ⟨RX11, "tear", "(II)I"⟩
abbrev cX11_check : ByteArray := prog_13_method_120_code
def yX11_check : MethodName := ⟨RX11, "check", "()I"⟩
abbrev cX11_count : ByteArray := prog_13_method_121_code
def yX11_count : MethodName := ⟨RX11, "count", "(I)I"⟩
def RJx145de : String := "java/io/Serializable"
def TJx145de : u_T := fun k => match k with
  | _ => ("", "", "", false)
def tyJx145de : Nat → FieldType := fun k => match k with
  | _ => .int
abbrev wsJx145de0 : List Cond := u_ws RJx145de TJx145de 0
theorem nmJx145de : ∀ a, a < 0 → ∀ b, b < 0 → a ≠ b → (TJx145de a).2.1 ≠ (TJx145de b).2.1 := by decide +kernel
theorem tyJx145de_ok : ∀ k, k < 0 → parseFieldDescriptor (TJx145de k).2.2.1 = some (tyJx145de k) := by decide +kernel
def RJx9f9b0 : String := "java/lang/CharSequence"
def TJx9f9b0 : u_T := fun k => match k with
  | _ => ("", "", "", false)
def tyJx9f9b0 : Nat → FieldType := fun k => match k with
  | _ => .int
abbrev wsJx9f9b00 : List Cond := u_ws RJx9f9b0 TJx9f9b0 0
theorem nmJx9f9b0 : ∀ a, a < 0 → ∀ b, b < 0 → a ≠ b → (TJx9f9b0 a).2.1 ≠ (TJx9f9b0 b).2.1 := by decide +kernel
theorem tyJx9f9b0_ok : ∀ k, k < 0 → parseFieldDescriptor (TJx9f9b0 k).2.2.1 = some (tyJx9f9b0 k) := by decide +kernel
def RJxb160c : String := "java/lang/Comparable"
def TJxb160c : u_T := fun k => match k with
  | _ => ("", "", "", false)
def tyJxb160c : Nat → FieldType := fun k => match k with
  | _ => .int
abbrev wsJxb160c0 : List Cond := u_ws RJxb160c TJxb160c 0
theorem nmJxb160c : ∀ a, a < 0 → ∀ b, b < 0 → a ≠ b → (TJxb160c a).2.1 ≠ (TJxb160c b).2.1 := by decide +kernel
theorem tyJxb160c_ok : ∀ k, k < 0 → parseFieldDescriptor (TJxb160c k).2.2.1 = some (tyJxb160c k) := by decide +kernel
def RJ9 : String := "java/lang/Math"
def TJ9 : u_T := fun k => match k with
  | _ => ("", "", "", false)
def tyJ9 : Nat → FieldType := fun k => match k with
  | _ => .int
abbrev wsJ90 : List Cond := u_ws RJ9 TJ9 0
theorem nmJ9 : ∀ a, a < 0 → ∀ b, b < 0 → a ≠ b → (TJ9 a).2.1 ≠ (TJ9 b).2.1 := by decide +kernel
theorem tyJ9_ok : ∀ k, k < 0 → parseFieldDescriptor (TJ9 k).2.2.1 = some (tyJ9 k) := by decide +kernel
abbrev cJ9_floorMod_7cf53 : ByteArray := prog_20_method_50_code
def yJ9_floorMod_7cf53 : MethodName := ⟨RJ9, "floorMod", "(II)I"⟩
abbrev cJ9_abs_0f7a4 : ByteArray := prog_20_method_59_code
def yJ9_abs_0f7a4 : MethodName := ⟨RJ9, "abs", "(I)I"⟩
abbrev cJ9_max_7cf53 : ByteArray := prog_20_method_65_code
def yJ9_max_7cf53 : MethodName := ⟨RJ9, "max", "(II)I"⟩
abbrev cJ9_min_7cf53 : ByteArray := prog_20_method_69_code
def yJ9_min_7cf53 : MethodName := ⟨RJ9, "min", "(II)I"⟩
def RJ0 : String := "java/lang/String"
def TJ0 : u_T := fun k => match k with
  | _ => ("", "", "", false)
def tyJ0 : Nat → FieldType := fun k => match k with
  | _ => .int
abbrev wsJ00 : List Cond := u_ws RJ0 TJ0 0
theorem nmJ0 : ∀ a, a < 0 → ∀ b, b < 0 → a ≠ b → (TJ0 a).2.1 ≠ (TJ0 b).2.1 := by decide +kernel
theorem tyJ0_ok : ∀ k, k < 0 → parseFieldDescriptor (TJ0 k).2.2.1 = some (tyJ0 k) := by decide +kernel
abbrev cJ0_length_8abf5 : ByteArray := prog_22_method_54_code
def yJ0_length_8abf5 : MethodName := ⟨RJ0, "length", "()I"⟩
abbrev cJ0_charAt_5068e : ByteArray := prog_22_method_56_code
def yJ0_charAt_5068e : MethodName := ⟨RJ0, "charAt", "(I)C"⟩
abbrev cJ0_coder_7d493 : ByteArray := prog_22_method_152_code
def yJ0_coder_7d493 : MethodName := ⟨RJ0, "coder", "()B"⟩
abbrev cJ0_isLatin1_aae02 : ByteArray := prog_22_method_154_code
def yJ0_isLatin1_aae02 : MethodName := ⟨RJ0, "isLatin1", "()Z"⟩
abbrev cJ0_checkIndex_df160 : ByteArray := prog_22_method_155_code
def yJ0_checkIndex_df160 : MethodName := ⟨RJ0, "checkIndex", "(II)V"⟩
def RJ1 : String := "java/lang/StringLatin1"
def TJ1 : u_T := fun k => match k with
  | _ => ("", "", "", false)
def tyJ1 : Nat → FieldType := fun k => match k with
  | _ => .int
abbrev wsJ10 : List Cond := u_ws RJ1 TJ1 0
theorem nmJ1 : ∀ a, a < 0 → ∀ b, b < 0 → a ≠ b → (TJ1 a).2.1 ≠ (TJ1 b).2.1 := by decide +kernel
theorem tyJ1_ok : ∀ k, k < 0 → parseFieldDescriptor (TJ1 k).2.2.1 = some (tyJ1 k) := by decide +kernel
abbrev cJ1_charAt_3b067 : ByteArray := prog_23_method_2_code
def yJ1_charAt_3b067 : MethodName := ⟨RJ1, "charAt", "([BI)C"⟩
def RJ2 : String := "java/lang/StringUTF16"
def TJ2 : u_T := fun k => match k with
  | _ => ("", "", "", false)
def tyJ2 : Nat → FieldType := fun k => match k with
  | _ => .int
abbrev wsJ20 : List Cond := u_ws RJ2 TJ2 0
theorem nmJ2 : ∀ a, a < 0 → ∀ b, b < 0 → a ≠ b → (TJ2 a).2.1 ≠ (TJ2 b).2.1 := by decide +kernel
theorem tyJ2_ok : ∀ k, k < 0 → parseFieldDescriptor (TJ2 k).2.2.1 = some (tyJ2 k) := by decide +kernel
abbrev cJ2_getChar_3b067 : ByteArray := prog_24_method_5_code
def yJ2_getChar_3b067 : MethodName := ⟨RJ2, "getChar", "([BI)C"⟩
abbrev cJ2_length_9d52b : ByteArray := prog_24_method_6_code
def yJ2_length_9d52b : MethodName := ⟨RJ2, "length", "([B)I"⟩
abbrev cJ2_charAt_3b067 : ByteArray := prog_24_method_83_code
def yJ2_charAt_3b067 : MethodName := ⟨RJ2, "charAt", "([BI)C"⟩
abbrev cJ2_checkIndex_2214a : ByteArray := prog_24_method_91_code
def yJ2_checkIndex_2214a : MethodName := ⟨RJ2, "checkIndex", "(I[B)V"⟩
def RJ10 : String := "java/lang/System"
def TJ10 : u_T := fun k => match k with
  | _ => ("", "", "", false)
def tyJ10 : Nat → FieldType := fun k => match k with
  | _ => .int
abbrev wsJ100 : List Cond := u_ws RJ10 TJ10 0
theorem nmJ10 : ∀ a, a < 0 → ∀ b, b < 0 → a ≠ b → (TJ10 a).2.1 ≠ (TJ10 b).2.1 := by decide +kernel
theorem tyJ10_ok : ∀ k, k < 0 → parseFieldDescriptor (TJ10 k).2.2.1 = some (tyJ10 k) := by decide +kernel
def RJxfd54e : String := "java/lang/constant/Constable"
def TJxfd54e : u_T := fun k => match k with
  | _ => ("", "", "", false)
def tyJxfd54e : Nat → FieldType := fun k => match k with
  | _ => .int
abbrev wsJxfd54e0 : List Cond := u_ws RJxfd54e TJxfd54e 0
theorem nmJxfd54e : ∀ a, a < 0 → ∀ b, b < 0 → a ≠ b → (TJxfd54e a).2.1 ≠ (TJxfd54e b).2.1 := by decide +kernel
theorem tyJxfd54e_ok : ∀ k, k < 0 → parseFieldDescriptor (TJxfd54e k).2.2.1 = some (tyJxfd54e k) := by decide +kernel
def RJx3cf43 : String := "java/lang/constant/ConstantDesc"
def TJx3cf43 : u_T := fun k => match k with
  | _ => ("", "", "", false)
def tyJx3cf43 : Nat → FieldType := fun k => match k with
  | _ => .int
abbrev wsJx3cf430 : List Cond := u_ws RJx3cf43 TJx3cf43 0
theorem nmJx3cf43 : ∀ a, a < 0 → ∀ b, b < 0 → a ≠ b → (TJx3cf43 a).2.1 ≠ (TJx3cf43 b).2.1 := by decide +kernel
theorem tyJx3cf43_ok : ∀ k, k < 0 → parseFieldDescriptor (TJx3cf43 k).2.2.1 = some (tyJx3cf43 k) := by decide +kernel
def RJ3 : String := "jdk/internal/util/Preconditions"
def TJ3 : u_T := fun k => match k with
  | _ => ("", "", "", false)
def tyJ3 : Nat → FieldType := fun k => match k with
  | _ => .int
abbrev wsJ30 : List Cond := u_ws RJ3 TJ3 0
theorem nmJ3 : ∀ a, a < 0 → ∀ b, b < 0 → a ≠ b → (TJ3 a).2.1 ≠ (TJ3 b).2.1 := by decide +kernel
theorem tyJ3_ok : ∀ k, k < 0 → parseFieldDescriptor (TJ3 k).2.2.1 = some (tyJ3 k) := by decide +kernel
abbrev cJ3_checkIndex_8e157 : ByteArray := prog_31_method_11_code
def yJ3_checkIndex_8e157 : MethodName := ⟨RJ3, "checkIndex", "(IILjava/util/function/BiFunction;)I"⟩
def RL : String := "RidgeBureauLaw"
abbrev cL_print : ByteArray := method_3_code
def yL_print : MethodName := ⟨RL, "print", "(LRidgeBureau;[J)I"⟩
abbrev cL_field : ByteArray := method_4_code
def yL_field : MethodName := ⟨RL, "field", "(LRidgeBureau;II[J)I"⟩
abbrev cL_turn : ByteArray := method_5_code
def yL_turn : MethodName := ⟨RL, "turn", "(LRidgeBureau;II[J)I"⟩
abbrev cL_pattern : ByteArray := method_6_code
def yL_pattern : MethodName := ⟨RL, "pattern", "(LRidgeBureau;I[J)I"⟩
abbrev cL_singular : ByteArray := method_7_code
def yL_singular : MethodName := ⟨RL, "singular", "(LRidgeBureau;IIZ[J)I"⟩
abbrev cL_ridges : ByteArray := method_8_code
def yL_ridges : MethodName := ⟨RL, "ridges", "(LRidgeBureau;I[J)I"⟩
abbrev cL_point : ByteArray := method_9_code
def yL_point : MethodName := ⟨RL, "point", "(LRidgeBureau;IIIII[J)I"⟩
abbrev cL_mark : ByteArray := method_10_code
def yL_mark : MethodName := ⟨RL, "mark", "(LRidgeBureau;IIIIZ[J)I"⟩
abbrev cL_spot : ByteArray := method_11_code
def yL_spot : MethodName := ⟨RL, "spot", "(LRidgeBureau;IIIII[J)I"⟩
abbrev cL_slack : ByteArray := method_12_code
def yL_slack : MethodName := ⟨RL, "slack", "(LRidgeBureau;I)I"⟩
abbrev cL_lay : ByteArray := method_13_code
def yL_lay : MethodName := ⟨RL, "lay", "(LRidgeBureau;III[J)I"⟩
abbrev cL_card : ByteArray := method_14_code
def yL_card : MethodName := ⟨RL, "card", "(LRidgeBureau;I[J)I"⟩
abbrev cL_finger : ByteArray := method_15_code
def yL_finger : MethodName := ⟨RL, "finger", "(LRidgeBureau;III[J)I"⟩
abbrev cL_doubt : ByteArray := method_16_code
def yL_doubt : MethodName := ⟨RL, "doubt", "(LRidgeBureau;III[J)I"⟩
abbrev cL_kind : ByteArray := method_17_code
def yL_kind : MethodName := ⟨RL, "kind", "(LRidgeBureau;II[J)I"⟩
abbrev cL_number : ByteArray := method_18_code
def yL_number : MethodName := ⟨RL, "number", "(LRidgeBureau;IZ[J)I"⟩
abbrev cL_drawers : ByteArray := method_19_code
def yL_drawers : MethodName := ⟨RL, "drawers", "(LRidgeBureau;I[J)I"⟩
abbrev cL_like : ByteArray := method_20_code
def yL_like : MethodName := ⟨RL, "like", "(LRidgeBureau;II[J)I"⟩
abbrev cL_rules : ByteArray := method_21_code
def yL_rules : MethodName := ⟨RL, "rules", "(LRidgeBureau;I[J)I"⟩
abbrev cL_verdict : ByteArray := method_22_code
def yL_verdict : MethodName := ⟨RL, "verdict", "(LRidgeBureau;III[J)I"⟩
abbrev cL_why : ByteArray := method_23_code
def yL_why : MethodName := ⟨RL, "why", "(LRidgeBureau;III[J)I"⟩
abbrev cL_say : ByteArray := method_24_code
def yL_say : MethodName := ⟨RL, "say", "(LRidgeBureau;IIIII[J)I"⟩
abbrev cL_said : ByteArray := method_25_code
def yL_said : MethodName := ⟨RL, "said", "(LRidgeBureau;IIIII[J)I"⟩
abbrev cL_proved : ByteArray := method_26_code
def yL_proved : MethodName := ⟨RL, "proved", "(LRidgeBureau;IIII[J)I"⟩
abbrev cL_alike : ByteArray := method_27_code
def yL_alike : MethodName := ⟨RL, "alike", "(LRidgeBureau;III[J)I"⟩
abbrev cL_person : ByteArray := method_28_code
def yL_person : MethodName := ⟨RL, "person", "(LRidgeBureau;II[J)I"⟩
abbrev cL_tell : ByteArray := method_29_code
def yL_tell : MethodName := ⟨RL, "tell", "(LRidgeBureau;II[J)I"⟩
abbrev cL_kept : ByteArray := method_30_code
def yL_kept : MethodName := ⟨RL, "kept", "(LRidgeBureau;II[J)I"⟩
abbrev cL_desk : ByteArray := method_31_code
def yL_desk : MethodName := ⟨RL, "desk", "(LRidgeBureau;I)I"⟩
abbrev cL_days : ByteArray := method_32_code
def yL_days : MethodName := ⟨RL, "days", "(LRidgeBureau;I[J)I"⟩
abbrev cL_look : ByteArray := method_33_code
def yL_look : MethodName := ⟨RL, "look", "(LRidgeBureau;II[J)I"⟩
abbrev cL_hit : ByteArray := method_34_code
def yL_hit : MethodName := ⟨RL, "hit", "(LRidgeBureau;II[J)I"⟩
abbrev cL_left : ByteArray := method_35_code
def yL_left : MethodName := ⟨RL, "left", "(LRidgeBureau;I[J)I"⟩
abbrev cL_rare : ByteArray := method_36_code
def yL_rare : MethodName := ⟨RL, "rare", "(LRidgeBureau;IZ[J)I"⟩
abbrev cL_tear : ByteArray := method_37_code
def yL_tear : MethodName := ⟨RL, "tear", "(LRidgeBureau;II[J)I"⟩
abbrev cL_law : ByteArray := code
def yL_law : MethodName := ⟨RL, "law", "([I)Z"⟩
abbrev vwCl : List vw_C := [(RX0, TX0, 7), (RX1, TX1, 2), (RX2, TX2, 12), (RX3, TX3, 3), (RX4, TX4, 5), (RX5, TX5, 8), (RX6, TX6, 9), (RX7, TX7, 15), (RX8, TX8, 4), (RX9, TX9, 8), (RX10, TX10, 12), (RX11, TX11, 28)]
end
section
/-! the abstract machine: worlds are (how many objects, what each is); a reference is an object's number; numbers from FB on are fixed things outside (texts, static rows, the script) -/
abbrev aW : Type := Nat × (Nat → va_E)
abbrev aI : Type := Nat × Nat × Nat × Value × List Nat
abbrev aInfo : Type := Nat × Nat × Option FieldType × List (Nat × Nat × Nat × String)
abbrev aS : Type := Nat → List Value → aW → (Option Value → aW → Prop) → (String → aW → Prop) → Prop
def FB : Nat := 1000000
def aO (op a b : Nat) : aI := (op, a, b, .null, [])
def aC (a : Nat) (v : Value) : aI := (2, a, 0, v, [])
def aN (a : Nat) (z : Int32) : aI := (3, a, 0, .int z, [])
def aV (mid n : Nat) (l : List Nat) : aI := (34, mid, n, .null, l)
def aT (a b : Nat) (l : List Nat) : aI := (18, a, b, .null, l)
def aAt (w : aW) (i : Nat) (e : va_E) : Prop := i < w.1 ∧ w.2 i = e
def aUp (w : aW) (i : Nat) (e : va_E) : aW := (w.1, va_up w.2 i e)
def aNew (w : aW) (e : va_E) : aW := (w.1 + 1, va_up w.2 w.1 e)
def tyT : Nat → FieldType := fun t => match t with
  | 0 => .int
  | 1 => .long
  | 2 => .byte
  | 3 => .boolean
  | 4 => .object RX4
  | 5 => .object RX3
  | 6 => .object RX0
  | _ => .object RX5
def nTy : Nat := 8
def exN (a : Nat) : String := match a with
  | 0 => "java/lang/IllegalArgumentException"
  | 1 => "java/lang/UnsupportedOperationException"
  | 2 => "java/lang/IndexOutOfBoundsException"
  | _ => "java/util/NoSuchElementException"
end
section
/-! tables of the program for the abstract machine: printed by wip/whole/gen.py out of claim/NAMES.whole.lean.txt and claim/Statement.lean -/
def k_X0_init : List aI := [aO 0 0 1, aO 37 0 0, aO 0 0 1, aC 1 (.int 10), aO 32 0 0, aO 21 0 3, aO 0 0 1, aC 1 (.int 10), aO 32 0 0, aO 21 0 4, aO 0 0 1, aC 1 (.int 10), aO 32 0 0, aO 21 0 5, aO 0 0 1, aC 0 (.int 3), aO 32 0 0, aO 21 0 6, aO 39 0 3]
def p_X0_init : List Nat := [0, 1, 4, 5, 7, 9, 12, 13, 15, 17, 20, 21, 23, 25, 28, 29, 30, 32, 35, 36]
def h_X0_init : List Nat := [0, 334, 0, 0, 175, 343, 0, 0, 175, 346, 0, 0, 175, 349, 0, 0, 175, 352, 0]
def k_X0_begin : List aI := [aO 0 0 1, aO 0 1 0, aO 20 0 0, aO 0 0 1, aO 0 2 0, aO 20 0 1, aO 0 0 1, aC 0 (.int (-1)), aO 20 0 2, aC 0 (.int 0), aO 1 3 0, aO 0 3 0, aC 1 (.int 10), aO 16 31 3, aO 0 0 1, aO 19 0 3, aO 0 3 0, aC 0 (.int (-1)), aO 24 0 0, aO 0 0 1, aO 19 0 4, aO 0 3 0, aC 0 (.int (-1)), aO 24 0 0, aO 0 0 1, aO 19 0 5, aO 0 3 0, aC 0 (.int 0), aO 24 0 0, aN 3 1, aO 17 11 0, aC 0 (.int 0), aO 1 3 0, aO 0 3 0, aC 0 (.int 3), aO 16 43 3, aO 0 0 1, aO 19 0 6, aO 0 3 0, aC 0 (.int (-1)), aO 24 0 0, aN 3 1, aO 17 33 0, aO 39 0 3]
def p_X0_begin : List Nat := [0, 1, 2, 5, 6, 7, 10, 11, 12, 15, 16, 17, 18, 20, 23, 24, 27, 28, 29, 30, 31, 34, 35, 36, 37, 38, 41, 42, 43, 44, 47, 50, 51, 52, 53, 54, 57, 58, 61, 62, 63, 64, 67, 70, 71]
def h_X0_begin : List Nat := [0, 0, 335, 0, 0, 337, 0, 0, 340, 0, 0, 0, 0, 0, 0, 343, 0, 0, 0, 0, 346, 0, 0, 0, 0, 349, 0, 0, 0, 0, 0, 0, 0, 0, 0, 0, 0, 352, 0, 0, 0, 0, 0, 0]
def k_X0_doubtful : List aI := [aC 0 (.int 0), aO 1 1 0, aC 0 (.int 0), aO 1 2 0, aO 0 2 0, aC 1 (.int 10), aO 16 21 3, aO 0 1 0, aO 0 0 1, aO 19 0 4, aO 0 2 0, aO 23 0 0, aC 0 (.int (-1)), aO 16 16 1, aC 0 (.int 0), aO 17 17 0, aC 0 (.int 1), aO 4 0 0, aO 1 1 0, aN 2 1, aO 17 4 0, aO 0 1 0, aO 39 0 0]
def p_X0_doubtful : List Nat := [0, 1, 2, 3, 4, 5, 7, 10, 11, 12, 15, 16, 17, 18, 21, 22, 25, 26, 27, 28, 31, 34, 35, 36]
def h_X0_doubtful : List Nat := [0, 0, 0, 0, 0, 0, 0, 0, 0, 346, 0, 0, 0, 0, 0, 0, 0, 0, 0, 0, 0, 0, 0]
def k_X0_withPrints : List aI := [aC 0 (.int 0), aO 1 1 0, aC 0 (.int 0), aO 1 2 0, aO 0 2 0, aC 1 (.int 10), aO 16 21 3, aO 0 1 0, aO 0 0 1, aO 19 0 3, aO 0 2 0, aO 23 0 0, aC 0 (.int (-1)), aO 16 16 1, aC 0 (.int 0), aO 17 17 0, aC 0 (.int 1), aO 4 0 0, aO 1 1 0, aN 2 1, aO 17 4 0, aO 0 1 0, aO 39 0 0]
def p_X0_withPrints : List Nat := [0, 1, 2, 3, 4, 5, 7, 10, 11, 12, 15, 16, 17, 18, 21, 22, 25, 26, 27, 28, 31, 34, 35, 36]
def h_X0_withPrints : List Nat := [0, 0, 0, 0, 0, 0, 0, 0, 0, 343, 0, 0, 0, 0, 0, 0, 0, 0, 0, 0, 0, 0, 0]
def k_X0_choices : List aI := [aC 0 (.int 0), aO 1 1 0, aC 0 (.int 0), aO 1 2 0, aO 0 2 0, aC 1 (.int 10), aO 16 27 3, aO 0 0 1, aO 19 0 3, aO 0 2 0, aO 23 0 0, aC 0 (.int (-1)), aO 16 25 0, aO 0 0 1, aO 19 0 4, aO 0 2 0, aO 23 0 0, aC 0 (.int (-1)), aO 16 25 0, aO 0 1 0, aC 0 (.int 1), aO 0 2 0, aO 4 0 6, aO 4 0 4, aO 1 1 0, aN 2 1, aO 17 4 0, aO 0 1 0, aO 39 0 0]
def p_X0_choices : List Nat := [0, 1, 2, 3, 4, 5, 7, 10, 11, 14, 15, 16, 17, 20, 21, 24, 25, 26, 27, 30, 31, 32, 33, 34, 35, 36, 39, 42, 43, 44]
def h_X0_choices : List Nat := [0, 0, 0, 0, 0, 0, 0, 0, 343, 0, 0, 0, 0, 0, 346, 0, 0, 0, 0, 0, 0, 0, 0, 0, 0, 0, 0, 0, 0]
def k_X0_isThereOn : List aI := [aO 0 0 1, aO 19 0 1, aO 0 1 0, aO 16 14 4, aO 0 0 1, aO 19 0 2, aC 0 (.int (-1)), aO 16 12 0, aO 0 0 1, aO 19 0 2, aO 0 1 0, aO 16 14 5, aC 0 (.int 1), aO 17 15 0, aC 0 (.int 0), aO 39 0 0]
def p_X0_isThereOn : List Nat := [0, 1, 4, 5, 8, 9, 12, 13, 16, 17, 20, 21, 24, 25, 28, 29, 30]
def h_X0_isThereOn : List Nat := [0, 337, 0, 0, 0, 340, 0, 0, 0, 340, 0, 0, 0, 0, 0, 0]
def k_X0_wasToldOn : List aI := [aO 0 0 1, aO 19 0 6, aO 0 1 0, aO 23 0 0, aC 0 (.int (-1)), aO 16 14 0, aO 0 0 1, aO 19 0 6, aO 0 1 0, aO 23 0 0, aO 0 2 0, aO 16 14 4, aC 0 (.int 1), aO 17 15 0, aC 0 (.int 0), aO 39 0 0]
def p_X0_wasToldOn : List Nat := [0, 1, 4, 5, 6, 7, 10, 11, 14, 15, 16, 17, 20, 21, 24, 25, 26]
def h_X0_wasToldOn : List Nat := [0, 352, 0, 0, 0, 0, 0, 352, 0, 0, 0, 0, 0, 0, 0, 0]
def k_X0_copyFrom : List aI := [aO 0 0 1, aO 0 1 1, aO 19 0 0, aO 20 0 0, aO 0 0 1, aO 0 1 1, aO 19 0 1, aO 20 0 1, aO 0 0 1, aO 0 1 1, aO 19 0 2, aO 20 0 2, aO 0 1 1, aO 19 0 3, aO 0 0 1, aO 19 0 3, aV 176 2 [], aO 0 1 1, aO 19 0 4, aO 0 0 1, aO 19 0 4, aV 176 2 [], aO 0 1 1, aO 19 0 5, aO 0 0 1, aO 19 0 5, aV 176 2 [], aO 0 1 1, aO 19 0 6, aO 0 0 1, aO 19 0 6, aV 176 2 [], aO 39 0 3]
def p_X0_copyFrom : List Nat := [0, 1, 2, 5, 8, 9, 10, 13, 16, 17, 18, 21, 24, 25, 28, 29, 32, 35, 36, 39, 40, 43, 46, 47, 50, 51, 54, 57, 58, 61, 62, 65, 68, 69]
def h_X0_copyFrom : List Nat := [0, 0, 335, 335, 0, 0, 337, 337, 0, 0, 340, 340, 0, 343, 0, 343, 100014, 0, 346, 0, 346, 100014, 0, 349, 0, 349, 100014, 0, 352, 0, 352, 100014, 0]
def k_X1_init : List aI := [aO 0 0 1, aO 37 0 0, aO 0 0 1, aC 0 (.int 5), aO 32 1 0, aO 21 1 0, aO 39 0 3]
def p_X1_init : List Nat := [0, 1, 4, 5, 6, 8, 11, 12]
def h_X1_init : List Nat := [0, 486, 0, 0, 494, 487, 0]
def k_X1_ofLay : List aI := [aO 0 0 1, aO 19 1 0, aC 0 (.int 0), aO 0 1 1, aO 19 2 0, aO 6 0 0, aO 28 0 0, aO 0 0 1, aO 19 1 0, aC 0 (.int 1), aO 0 1 1, aO 19 2 1, aO 6 0 0, aO 28 0 0, aO 0 0 1, aO 19 1 0, aC 0 (.int 2), aO 0 2 0, aO 6 0 0, aO 28 0 0, aO 0 0 1, aO 19 1 0, aC 0 (.int 3), aO 0 3 0, aO 6 0 0, aO 28 0 0, aO 0 0 1, aO 19 1 0, aC 0 (.int 4), aC 3 (.long 0), aO 28 0 0, aO 0 0 1, aC 0 (.int 0), aO 20 1 1, aO 39 0 3]
def p_X1_ofLay : List Nat := [0, 1, 4, 5, 6, 9, 10, 11, 12, 15, 16, 17, 20, 21, 22, 23, 26, 27, 28, 29, 30, 31, 34, 35, 36, 37, 38, 39, 42, 43, 44, 45, 46, 47, 50, 51]
def h_X1_ofLay : List Nat := [0, 487, 0, 0, 437, 0, 0, 0, 487, 0, 0, 440, 0, 0, 0, 487, 0, 0, 0, 0, 0, 487, 0, 0, 0, 0, 0, 487, 0, 0, 0, 0, 0, 488, 0]
def k_X1_ofCard : List aI := [aC 0 (.int 0), aO 1 3 0, aO 0 3 0, aO 0 0 1, aO 19 1 0, aO 22 0 0, aO 16 14 3, aO 0 0 1, aO 19 1 0, aO 0 3 0, aC 3 (.long 0), aO 28 0 0, aN 3 1, aO 17 2 0, aO 0 0 1, aO 19 1 0, aC 0 (.int 4), aO 0 2 0, aO 6 0 0, aO 0 1 1, aO 19 0 1, aO 6 0 0, aO 8 0 1, aO 28 0 0, aO 0 0 1, aC 0 (.int 0), aO 20 1 1, aC 0 (.int 0), aO 1 3 0, aO 0 3 0, aC 0 (.int 3), aO 16 43 3, aO 0 0 1, aC 0 (.int 1), aO 0 3 0, aO 4 0 0, aO 0 1 1, aO 0 3 0, aO 0 2 0, aV 6 3 [0], aV 12 3 [1], aN 3 1, aO 17 29 0, aO 39 0 3]
def p_X1_ofCard : List Nat := [0, 1, 2, 3, 4, 7, 8, 11, 12, 15, 16, 17, 18, 21, 24, 25, 28, 29, 30, 31, 32, 35, 36, 37, 38, 39, 40, 43, 44, 45, 46, 47, 50, 51, 52, 53, 54, 55, 56, 57, 60, 63, 66, 69, 70]
def h_X1_ofCard : List Nat := [0, 0, 0, 0, 487, 0, 0, 0, 487, 0, 0, 0, 0, 0, 0, 487, 0, 0, 0, 0, 338, 0, 0, 0, 0, 0, 488, 0, 0, 0, 0, 0, 0, 0, 0, 0, 0, 0, 0, 1414, 1418, 0, 0, 0]
def k_X1_setAge : List aI := [aO 0 0 1, aO 19 1 0, aC 0 (.int 4), aO 0 1 2, aO 28 0 0, aO 39 0 3]
def p_X1_setAge : List Nat := [0, 1, 4, 5, 6, 7, 8]
def h_X1_setAge : List Nat := [0, 487, 0, 0, 0, 0]
def k_X1_setTag : List aI := [aO 0 0 1, aO 0 2 0, aO 15 10 0, aO 0 0 1, aO 19 1 1, aC 0 (.int 1), aO 0 1 0, aO 4 0 6, aO 4 0 4, aO 17 18 0, aO 0 0 1, aO 19 1 1, aC 0 (.int 1), aO 0 1 0, aO 4 0 6, aC 0 (.int (-1)), aO 4 0 5, aO 4 0 3, aO 20 1 1, aO 39 0 3]
def p_X1_setTag : List Nat := [0, 1, 2, 5, 6, 9, 10, 11, 12, 13, 16, 17, 20, 21, 22, 23, 24, 25, 26, 29, 30]
def h_X1_setTag : List Nat := [0, 0, 0, 0, 488, 0, 0, 0, 0, 0, 0, 488, 0, 0, 0, 0, 0, 0, 488, 0]
def k_X1_isTrue : List aI := [aO 0 1 0, aO 15 14 1, aO 0 0 1, aO 19 1 1, aO 0 2 0, aO 4 0 7, aC 0 (.int 1), aO 4 0 3, aC 0 (.int 1), aO 16 12 1, aC 0 (.int 1), aO 17 13 0, aC 0 (.int 0), aO 39 0 0, aO 0 2 0, aO 15 26 2, aO 0 2 0, aO 0 0 1, aO 19 1 0, aO 22 0 0, aO 16 26 3, aO 0 0 1, aO 19 1 0, aO 0 2 0, aO 27 0 0, aO 17 27 0, aC 3 (.long 0), aO 1 4 2, aO 0 1 0, aC 0 (.int 1), aO 16 40 1, aO 0 4 2, aO 0 3 0, aO 6 0 0, aO 10 0 0, aO 15 38 3, aC 0 (.int 1), aO 17 48 0, aC 0 (.int 0), aO 17 48 0, aO 0 4 2, aO 0 3 0, aO 6 0 0, aO 10 0 0, aO 15 47 5, aC 0 (.int 1), aO 17 48 0, aC 0 (.int 0), aO 39 0 0]
def p_X1_isTrue : List Nat := [0, 1, 4, 5, 8, 9, 10, 11, 12, 13, 16, 17, 20, 21, 22, 23, 26, 27, 28, 31, 32, 35, 36, 39, 40, 41, 44, 45, 47, 48, 49, 52, 54, 55, 56, 57, 60, 61, 64, 65, 68, 70, 71, 72, 73, 76, 77, 80, 81, 82]
def h_X1_isTrue : List Nat := [0, 0, 0, 488, 0, 0, 0, 0, 0, 0, 0, 0, 0, 0, 0, 0, 0, 0, 487, 0, 0, 0, 487, 0, 0, 0, 0, 0, 0, 0, 0, 0, 0, 0, 0, 0, 0, 0, 0, 0, 0, 0, 0, 0, 0, 0, 0, 0, 0]
def k_X2_init : List aI := [aO 0 0 1, aO 37 0 0, aO 0 0 1, aO 31 6 0, aO 12 0 0, aV 59 1 [100], aO 21 2 6, aO 0 0 1, aC 1 (.int 8), aO 32 0 0, aO 21 2 7, aO 0 0 1, aC 1 (.int 8), aO 32 0 0, aO 21 2 8, aO 0 0 1, aC 2 (.int 28800), aO 32 0 0, aO 21 2 10, aO 0 0 1, aC 0 (.int 1), aO 20 2 11, aO 39 0 3]
def p_X2_init : List Nat := [0, 1, 4, 5, 8, 9, 12, 15, 16, 18, 20, 23, 24, 26, 28, 31, 32, 35, 37, 40, 41, 42, 45, 46]
def h_X2_init : List Nat := [0, 434, 0, 435, 0, 100008, 450, 0, 0, 175, 451, 0, 0, 175, 452, 0, 0, 175, 454, 0, 0, 455, 0]
def k_X2_keyOfMark : List aI := [aO 0 1 0, aC 1 (.int 60), aO 4 0 2, aO 0 2 0, aO 4 0 0, aO 39 0 0]
def p_X2_keyOfMark : List Nat := [0, 1, 3, 4, 5, 6, 7]
def h_X2_keyOfMark : List Nat := [0, 0, 0, 0, 0, 0]
def k_X2_keyOfPrint : List aI := [aC 1 (.int 20), aO 0 1 0, aO 4 0 0, aC 1 (.int 60), aO 4 0 2, aO 0 2 0, aO 4 0 0, aO 39 0 0]
def p_X2_keyOfPrint : List Nat := [0, 2, 3, 4, 6, 7, 8, 9, 10]
def h_X2_keyOfPrint : List Nat := [0, 0, 0, 0, 0, 0, 0, 0]
def k_X2_forget : List aI := [aO 0 0 1, aO 12 0 0, aO 19 2 11, aC 0 (.int 1), aO 4 0 0, aO 20 2 11, aO 39 0 3]
def p_X2_forget : List Nat := [0, 1, 2, 5, 6, 7, 10, 11]
def h_X2_forget : List Nat := [0, 0, 455, 0, 0, 455, 0]
def k_X2_find : List aI := [aO 0 1 0, aC 1 (.int 6), aO 4 0 2, aO 1 5 0, aO 0 5 0, aO 15 15 2, aO 0 5 0, aC 1 (.int 6), aO 4 0 0, aO 0 0 1, aO 19 2 10, aO 22 0 0, aO 16 15 4, aC 0 (.int 1), aO 17 16 0, aC 0 (.int 0), aO 1 6 0, aO 0 6 0, aO 15 30 0, aO 0 0 1, aO 19 2 10, aO 0 5 0, aO 23 0 0, aO 0 0 1, aO 19 2 11, aO 16 30 1, aO 0 0 1, aO 0 5 0, aV 19 2 [2], aO 39 0 3, aO 0 0 1, aC 0 (.int 0), aO 20 2 5, aO 0 0 1, aC 0 (.int 0), aC 0 (.int 0), aC 0 (.int 0), aC 0 (.int 0), aC 0 (.int 0), aV 21 6 [2], aC 0 (.int 0), aO 1 7 0, aO 0 7 0, aC 0 (.int 4), aO 16 94 3, aO 0 0 1, aO 19 2 6, aO 0 2 1, aO 0 7 0, aV 63 3 [6], aC 0 (.int 0), aO 1 8 0, aO 0 8 0, aO 0 0 1, aO 19 2 6, aO 19 6 4, aO 16 92 3, aC 0 (.int 0), aO 1 9 0, aO 0 9 0, aO 0 3 1, aO 19 6 4, aO 16 90 3, aO 0 0 1, aO 0 3 1, aO 0 4 0, aO 0 7 0, aO 0 3 1, aO 19 6 0, aO 0 9 0, aO 23 0 0, aO 0 0 1, aO 19 2 6, aO 19 6 0, aO 0 8 0, aO 23 0 0, aO 4 0 1, aO 0 3 1, aO 19 6 1, aO 0 9 0, aO 23 0 0, aO 0 0 1, aO 19 2 6, aO 19 6 1, aO 0 8 0, aO 23 0 0, aO 4 0 1, aV 22 6 [2], aN 9 1, aO 17 59 0, aN 8 1, aO 17 52 0, aN 7 1, aO 17 42 0, aO 0 6 0, aO 15 99 0, aO 0 0 1, aO 0 5 0, aV 20 2 [2], aO 39 0 3]
def p_X2_find : List Nat := [0, 1, 3, 4, 6, 8, 11, 13, 15, 16, 17, 20, 21, 24, 25, 28, 29, 31, 33, 36, 37, 40, 42, 43, 44, 47, 50, 51, 53, 56, 57, 58, 59, 62, 63, 64, 65, 66, 67, 68, 71, 72, 74, 76, 77, 80, 81, 84, 85, 87, 90, 91, 93, 95, 96, 99, 102, 105, 106, 108, 110, 111, 114, 117, 118, 119, 121, 123, 124, 127, 129, 130, 131, 134, 137, 139, 140, 141, 142, 145, 147, 148, 149, 152, 155, 157, 158, 159, 162, 165, 168, 171, 174, 177, 180, 182, 185, 186, 188, 191, 192]
def h_X2_find : List Nat := [0, 0, 0, 0, 0, 0, 0, 0, 0, 0, 454, 0, 0, 0, 0, 0, 0, 0, 0, 0, 454, 0, 0, 0, 455, 0, 0, 0, 607, 0, 0, 0, 449, 0, 0, 0, 0, 0, 0, 611, 0, 0, 0, 0, 0, 0, 450, 0, 0, 615, 0, 0, 0, 0, 450, 263, 0, 0, 0, 0, 0, 263, 0, 0, 0, 0, 0, 0, 255, 0, 0, 0, 450, 255, 0, 0, 0, 0, 257, 0, 0, 0, 450, 257, 0, 0, 0, 639, 0, 0, 0, 0, 0, 0, 0, 0, 0, 0, 666, 0]
def k_X2_recall : List aI := [aO 0 0 1, aO 0 0 1, aO 19 2 10, aO 0 1 0, aC 0 (.int 1), aO 4 0 0, aO 23 0 0, aO 0 0 1, aO 19 2 10, aO 0 1 0, aC 0 (.int 2), aO 4 0 0, aO 23 0 0, aO 0 0 1, aO 19 2 10, aO 0 1 0, aC 0 (.int 3), aO 4 0 0, aO 23 0 0, aO 0 0 1, aO 19 2 10, aO 0 1 0, aC 0 (.int 4), aO 4 0 0, aO 23 0 0, aO 0 0 1, aO 19 2 10, aO 0 1 0, aC 0 (.int 5), aO 4 0 0, aO 23 0 0, aV 21 6 [2], aO 39 0 3]
def p_X2_recall : List Nat := [0, 1, 2, 5, 6, 7, 8, 9, 10, 13, 14, 15, 16, 17, 18, 21, 22, 23, 24, 25, 26, 29, 30, 31, 32, 33, 34, 37, 38, 39, 40, 41, 44, 45]
def h_X2_recall : List Nat := [0, 0, 454, 0, 0, 0, 0, 0, 454, 0, 0, 0, 0, 0, 454, 0, 0, 0, 0, 0, 454, 0, 0, 0, 0, 0, 454, 0, 0, 0, 0, 611, 0]
def k_X2_keep : List aI := [aO 0 0 1, aO 19 2 10, aO 0 1 0, aO 0 0 1, aO 19 2 11, aO 24 0 0, aO 0 0 1, aO 19 2 10, aO 0 1 0, aC 0 (.int 1), aO 4 0 0, aO 0 0 1, aO 19 2 0, aO 24 0 0, aO 0 0 1, aO 19 2 10, aO 0 1 0, aC 0 (.int 2), aO 4 0 0, aO 0 0 1, aO 19 2 1, aO 24 0 0, aO 0 0 1, aO 19 2 10, aO 0 1 0, aC 0 (.int 3), aO 4 0 0, aO 0 0 1, aO 19 2 2, aO 24 0 0, aO 0 0 1, aO 19 2 10, aO 0 1 0, aC 0 (.int 4), aO 4 0 0, aO 0 0 1, aO 19 2 3, aO 24 0 0, aO 0 0 1, aO 19 2 10, aO 0 1 0, aC 0 (.int 5), aO 4 0 0, aO 0 0 1, aO 19 2 4, aO 24 0 0, aO 39 0 3]
def p_X2_keep : List Nat := [0, 1, 4, 5, 6, 9, 10, 11, 14, 15, 16, 17, 18, 21, 22, 23, 26, 27, 28, 29, 30, 33, 34, 35, 38, 39, 40, 41, 42, 45, 46, 47, 50, 51, 52, 53, 54, 57, 58, 59, 62, 63, 64, 65, 66, 69, 70, 71]
def h_X2_keep : List Nat := [0, 454, 0, 0, 455, 0, 0, 454, 0, 0, 0, 0, 438, 0, 0, 454, 0, 0, 0, 0, 441, 0, 0, 454, 0, 0, 0, 0, 443, 0, 0, 454, 0, 0, 0, 0, 445, 0, 0, 454, 0, 0, 0, 0, 447, 0, 0]
def k_X2_take : List aI := [aO 0 0 1, aO 0 1 0, aO 20 2 0, aO 0 0 1, aO 0 2 0, aO 20 2 1, aO 0 0 1, aO 0 3 0, aO 20 2 2, aO 0 0 1, aO 0 4 0, aO 20 2 3, aO 0 0 1, aO 0 5 0, aO 20 2 4, aO 39 0 3]
def p_X2_take : List Nat := [0, 1, 2, 5, 6, 7, 10, 11, 12, 15, 16, 18, 21, 22, 24, 27, 28]
def h_X2_take : List Nat := [0, 0, 438, 0, 0, 441, 0, 0, 443, 0, 0, 445, 0, 0, 447, 0]
def k_X2_tryLay : List aI := [aO 0 0 1, aO 0 1 1, aO 0 2 0, aO 0 4 0, aO 0 5 0, aV 23 5 [2], aO 1 6 0, aO 0 0 1, aO 19 2 5, aO 15 15 0, aO 0 6 0, aO 0 0 1, aO 19 2 0, aO 16 15 3, aO 39 0 3, aC 0 (.int 0), aO 1 7 0, aO 0 7 0, aC 1 (.int 8), aO 16 27 3, aO 0 0 1, aO 19 2 8, aO 0 7 0, aC 0 (.int (-1)), aO 24 0 0, aN 7 1, aO 17 17 0, aC 0 (.int 0), aO 1 7 0, aC 0 (.int 0), aO 1 8 0, aO 0 8 0, aO 0 0 1, aO 19 2 6, aO 19 6 4, aO 16 47 3, aO 0 0 1, aC 0 (.int 0), aO 20 2 9, aO 0 0 1, aO 0 8 0, aC 0 (.int 0), aV 24 3 [2], aO 15 45 0, aN 7 1, aN 8 1, aO 17 31 0, aO 0 0 1, aO 0 1 1, aO 0 4 0, aO 0 5 0, aV 25 4 [2], aO 1 8 0, aO 0 0 1, aO 19 2 5, aO 15 64 0, aO 0 0 1, aO 0 7 0, aO 0 8 0, aO 0 3 0, aO 0 4 0, aO 0 5 0, aV 26 6 [2], aO 15 74 0, aO 0 0 1, aO 0 7 0, aO 0 8 0, aO 0 3 0, aO 0 4 0, aO 0 5 0, aV 21 6 [2], aO 0 0 1, aC 0 (.int 1), aO 20 2 5, aO 39 0 3]
def p_X2_tryLay : List Nat := [0, 1, 2, 3, 5, 7, 10, 12, 13, 16, 19, 21, 22, 25, 28, 29, 30, 32, 34, 36, 39, 40, 43, 45, 46, 47, 50, 53, 54, 56, 57, 59, 61, 62, 65, 68, 71, 72, 73, 76, 77, 79, 80, 83, 86, 89, 92, 95, 96, 97, 99, 101, 104, 106, 107, 110, 113, 114, 116, 118, 119, 121, 123, 126, 129, 130, 132, 134, 135, 137, 139, 142, 143, 144, 147, 148]
def h_X2_tryLay : List Nat := [0, 0, 0, 0, 0, 643, 0, 0, 449, 0, 0, 0, 438, 0, 0, 0, 0, 0, 0, 0, 0, 452, 0, 0, 0, 0, 0, 0, 0, 0, 0, 0, 0, 450, 263, 0, 0, 0, 453, 0, 0, 0, 650, 0, 0, 0, 0, 0, 0, 0, 0, 654, 0, 0, 449, 0, 0, 0, 0, 0, 0, 0, 662, 0, 0, 0, 0, 0, 0, 0, 611, 0, 0, 449, 0]
def k_X2_linkMates : List aI := [aC 0 (.int 0), aO 1 5 0, aC 0 (.int 0), aO 1 6 0, aO 0 6 0, aO 0 0 1, aO 19 2 6, aO 19 6 4, aO 16 124 3, aC 0 (.int 0), aO 1 7 0, aC 0 (.int 0), aO 1 8 0, aO 0 8 0, aO 0 1 1, aO 19 6 4, aO 16 109 3, aO 0 0 1, aO 19 2 6, aO 19 6 0, aO 0 6 0, aO 23 0 0, aO 0 3 0, aO 4 0 0, aO 0 1 1, aO 19 6 0, aO 0 8 0, aO 23 0 0, aO 4 0 1, aV 334 1 [], aO 0 2 0, aO 16 49 4, aO 0 0 1, aO 19 2 6, aO 19 6 1, aO 0 6 0, aO 23 0 0, aO 0 4 0, aO 4 0 0, aO 0 1 1, aO 19 6 1, aO 0 8 0, aO 23 0 0, aO 4 0 1, aV 334 1 [], aO 0 2 0, aO 16 49 4, aC 0 (.int 1), aO 17 50 0, aC 0 (.int 0), aO 1 9 0, aO 0 0 1, aO 19 2 6, aO 19 6 2, aO 0 6 0, aO 23 0 0, aO 0 1 1, aO 19 6 2, aO 0 8 0, aO 23 0 0, aO 16 74 0, aO 0 0 1, aO 19 2 6, aO 19 6 2, aO 0 6 0, aO 23 0 0, aC 0 (.int 2), aO 16 74 0, aO 0 1 1, aO 19 6 2, aO 0 8 0, aO 23 0 0, aC 0 (.int 2), aO 16 76 1, aC 0 (.int 1), aO 17 77 0, aC 0 (.int 0), aO 1 10 0, aO 0 0 1, aO 19 2 6, aO 19 6 3, aO 0 6 0, aO 23 0 0, aO 0 1 1, aO 19 6 3, aO 0 8 0, aO 23 0 0, aO 4 0 1, aC 1 (.int 15), aO 4 0 3, aO 1 11 0, aO 0 9 0, aO 15 107 0, aO 0 10 0, aO 15 107 0, aO 0 11 0, aC 0 (.int 1), aO 16 101 5, aO 0 11 0, aC 1 (.int 15), aO 16 107 1, aO 0 7 0, aC 0 (.int 1), aO 0 8 0, aO 4 0 6, aO 4 0 4, aO 1 7 0, aN 8 1, aO 17 13 0, aO 0 0 1, aO 19 2 7, aO 0 6 0, aO 0 7 0, aO 24 0 0, aO 0 5 0, aO 0 7 0, aO 15 119 1, aC 0 (.int 0), aO 17 120 0, aC 0 (.int 1), aO 4 0 0, aO 1 5 0, aN 6 1, aO 17 4 0, aO 0 5 0, aO 39 0 0]
def p_X2_linkMates : List Nat := [0, 1, 3, 4, 6, 8, 9, 12, 15, 18, 19, 21, 22, 24, 26, 27, 30, 33, 34, 37, 40, 42, 43, 44, 45, 46, 49, 51, 52, 53, 56, 57, 60, 61, 64, 67, 69, 70, 72, 73, 74, 77, 79, 80, 81, 84, 85, 88, 89, 92, 93, 95, 96, 99, 102, 104, 105, 106, 109, 111, 112, 115, 116, 119, 122, 124, 125, 126, 129, 130, 133, 135, 136, 137, 140, 141, 144, 145, 147, 148, 151, 154, 156, 157, 158, 161, 163, 164, 165, 167, 168, 170, 172, 175, 177, 180, 182, 183, 186, 188, 190, 193, 195, 196, 198, 199, 200, 202, 205, 208, 209, 212, 214, 216, 217, 219, 221, 224, 225, 228, 229, 230, 232, 235, 238, 240, 241]
def h_X2_linkMates : List Nat := [0, 0, 0, 0, 0, 0, 450, 263, 0, 0, 0, 0, 0, 0, 0, 263, 0, 0, 450, 255, 0, 0, 0, 0, 0, 255, 0, 0, 0, 647, 0, 0, 0, 450, 257, 0, 0, 0, 0, 0, 257, 0, 0, 0, 647, 0, 0, 0, 0, 0, 0, 0, 450, 259, 0, 0, 0, 259, 0, 0, 0, 0, 450, 259, 0, 0, 0, 0, 0, 259, 0, 0, 0, 0, 0, 0, 0, 0, 0, 450, 261, 0, 0, 0, 261, 0, 0, 0, 0, 0, 0, 0, 0, 0, 0, 0, 0, 0, 0, 0, 0, 0, 0, 0, 0, 0, 0, 0, 0, 0, 451, 0, 0, 0, 0, 0, 0, 0, 0, 0, 0, 0, 0, 0, 0, 0]
def k_X2_pair : List aI := [aO 0 1 0, aO 15 8 2, aO 0 1 0, aC 1 (.int 8), aO 16 8 3, aO 0 2 0, aC 1 (.int 8), aO 16 10 5, aC 0 (.int 0), aO 39 0 0, aC 0 (.int 0), aO 1 3 0, aO 0 3 0, aC 1 (.int 8), aO 16 63 3, aC 0 (.int 1), aO 0 3 0, aO 4 0 6, aO 1 4 0, aO 0 0 1, aO 19 2 7, aO 0 1 0, aO 23 0 0, aO 0 4 0, aO 4 0 3, aO 15 61 0, aO 0 0 1, aO 19 2 9, aO 0 4 0, aO 4 0 3, aO 15 32 0, aO 17 61 0, aO 0 0 1, aO 12 0 0, aO 19 2 9, aO 0 4 0, aO 4 0 4, aO 20 2 9, aO 0 0 1, aO 19 2 8, aO 0 3 0, aO 23 0 0, aC 0 (.int (-1)), aO 16 54 0, aO 0 0 1, aO 0 0 1, aO 19 2 8, aO 0 3 0, aO 23 0 0, aO 0 2 0, aC 0 (.int 1), aO 4 0 0, aV 24 3 [2], aO 15 61 0, aO 0 0 1, aO 19 2 8, aO 0 3 0, aO 0 1 0, aO 24 0 0, aC 0 (.int 1), aO 39 0 0, aN 3 1, aO 17 12 0, aC 0 (.int 0), aO 39 0 0]
def p_X2_pair : List Nat := [0, 1, 4, 5, 7, 10, 11, 13, 16, 17, 18, 19, 20, 21, 23, 26, 27, 28, 29, 31, 32, 35, 36, 37, 39, 40, 43, 44, 47, 49, 50, 53, 56, 57, 58, 61, 63, 64, 67, 68, 71, 72, 73, 74, 77, 78, 79, 82, 83, 84, 85, 86, 87, 90, 93, 94, 97, 98, 99, 100, 101, 102, 105, 108, 109, 110]
def h_X2_pair : List Nat := [0, 0, 0, 0, 0, 0, 0, 0, 0, 0, 0, 0, 0, 0, 0, 0, 0, 0, 0, 0, 451, 0, 0, 0, 0, 0, 0, 453, 0, 0, 0, 0, 0, 0, 453, 0, 0, 453, 0, 452, 0, 0, 0, 0, 0, 0, 452, 0, 0, 0, 0, 0, 650, 0, 0, 452, 0, 0, 0, 0, 0, 0, 0, 0, 0]
def k_X2_countAgainst : List aI := [aC 0 (.int 0), aO 1 4 0, aC 0 (.int 0), aO 1 5 0, aC 0 (.int 0), aO 1 6 0, aO 0 6 0, aO 0 0 1, aO 19 2 6, aO 19 6 4, aO 16 43 3, aO 0 5 0, aO 0 0 1, aO 19 2 7, aO 0 6 0, aO 23 0 0, aO 4 0 4, aO 1 5 0, aO 0 0 1, aO 19 2 7, aO 0 6 0, aO 23 0 0, aO 15 41 1, aO 0 1 1, aO 0 0 1, aO 19 2 6, aO 19 6 0, aO 0 6 0, aO 23 0 0, aO 0 2 0, aO 4 0 0, aO 0 0 1, aO 19 2 6, aO 19 6 1, aO 0 6 0, aO 23 0 0, aO 0 3 0, aO 4 0 0, aV 62 3 [6], aO 15 41 0, aN 4 1, aN 6 1, aO 17 6 0, aC 0 (.int 0), aO 1 6 0, aO 0 6 0, aO 0 1 1, aO 19 6 4, aO 16 74 3, aO 0 5 0, aO 0 6 0, aO 4 0 7, aC 0 (.int 1), aO 4 0 3, aO 15 72 1, aO 0 0 1, aO 19 2 6, aO 0 1 1, aO 19 6 0, aO 0 6 0, aO 23 0 0, aO 0 2 0, aO 4 0 1, aO 0 1 1, aO 19 6 1, aO 0 6 0, aO 23 0 0, aO 0 3 0, aO 4 0 1, aV 62 3 [6], aO 15 72 0, aN 4 1, aN 6 1, aO 17 45 0, aO 0 4 0, aO 39 0 0]
def p_X2_countAgainst : List Nat := [0, 1, 3, 4, 6, 7, 9, 11, 12, 15, 18, 21, 23, 24, 27, 29, 30, 31, 33, 34, 37, 39, 40, 43, 44, 45, 48, 51, 53, 54, 55, 56, 57, 60, 63, 65, 66, 67, 68, 71, 74, 77, 80, 83, 84, 86, 88, 89, 92, 95, 97, 99, 100, 101, 102, 105, 106, 109, 110, 113, 115, 116, 117, 118, 119, 122, 124, 125, 126, 127, 130, 133, 136, 139, 142, 144, 145]
def h_X2_countAgainst : List Nat := [0, 0, 0, 0, 0, 0, 0, 0, 450, 263, 0, 0, 0, 451, 0, 0, 0, 0, 0, 451, 0, 0, 0, 0, 0, 450, 255, 0, 0, 0, 0, 0, 450, 257, 0, 0, 0, 0, 658, 0, 0, 0, 0, 0, 0, 0, 0, 263, 0, 0, 0, 0, 0, 0, 0, 0, 450, 0, 255, 0, 0, 0, 0, 0, 257, 0, 0, 0, 0, 658, 0, 0, 0, 0, 0, 0]
def k_X2_isBetter : List aI := [aO 0 1 0, aO 0 0 1, aO 19 2 0, aO 16 12 0, aO 0 1 0, aO 0 0 1, aO 19 2 0, aO 16 10 5, aC 0 (.int 1), aO 17 11 0, aC 0 (.int 0), aO 39 0 0, aO 0 2 0, aO 0 0 1, aO 19 2 1, aO 16 24 0, aO 0 2 0, aO 0 0 1, aO 19 2 1, aO 16 22 3, aC 0 (.int 1), aO 17 23 0, aC 0 (.int 0), aO 39 0 0, aO 0 3 0, aO 0 0 1, aO 19 2 2, aO 16 36 0, aO 0 3 0, aO 0 0 1, aO 19 2 2, aO 16 34 3, aC 0 (.int 1), aO 17 35 0, aC 0 (.int 0), aO 39 0 0, aO 0 4 0, aO 0 0 1, aO 19 2 3, aO 16 48 0, aO 0 4 0, aO 0 0 1, aO 19 2 3, aO 16 46 3, aC 0 (.int 1), aO 17 55 0, aC 0 (.int 0), aO 17 55 0, aO 0 5 0, aO 0 0 1, aO 19 2 4, aO 16 54 3, aC 0 (.int 1), aO 17 55 0, aC 0 (.int 0), aO 39 0 0]
def p_X2_isBetter : List Nat := [0, 1, 2, 5, 8, 9, 10, 13, 16, 17, 20, 21, 22, 23, 24, 27, 30, 31, 32, 35, 38, 39, 42, 43, 44, 45, 46, 49, 52, 53, 54, 57, 60, 61, 64, 65, 66, 68, 69, 72, 75, 77, 78, 81, 84, 85, 88, 89, 92, 94, 95, 98, 101, 102, 105, 106, 107]
def h_X2_isBetter : List Nat := [0, 0, 438, 0, 0, 0, 438, 0, 0, 0, 0, 0, 0, 0, 441, 0, 0, 0, 441, 0, 0, 0, 0, 0, 0, 0, 443, 0, 0, 0, 443, 0, 0, 0, 0, 0, 0, 0, 445, 0, 0, 0, 445, 0, 0, 0, 0, 0, 0, 0, 447, 0, 0, 0, 0, 0]
def k_X3_init : List aI := [aO 0 0 1, aO 37 0 0, aO 0 0 1, aO 31 6 0, aO 12 0 0, aV 59 1 [100], aO 21 3 0, aO 39 0 3]
def p_X3_init : List Nat := [0, 1, 4, 5, 8, 9, 12, 15, 16]
def h_X3_init : List Nat := [0, 314, 0, 315, 0, 100005, 317, 0]
def k_X3_copyFrom : List aI := [aO 0 0 1, aO 19 3 0, aO 0 1 1, aO 19 3 0, aV 66 2 [6], aO 0 0 1, aO 0 1 1, aO 19 3 1, aO 20 3 1, aO 0 0 1, aO 0 1 1, aO 19 3 2, aO 20 3 2, aO 39 0 3]
def p_X3_copyFrom : List Nat := [0, 1, 4, 5, 8, 11, 12, 13, 16, 19, 20, 21, 24, 27, 28]
def h_X3_copyFrom : List Nat := [0, 317, 0, 317, 747, 0, 0, 319, 319, 0, 0, 321, 321, 0]
def k_X4_init : List aI := [aO 0 0 1, aO 37 0 0, aO 0 0 1, aC 1 (.int 64), aO 32 0 0, aO 21 4 0, aO 0 0 1, aO 31 6 0, aO 12 0 0, aV 59 1 [100], aO 21 4 1, aO 39 0 3]
def p_X4_init : List Nat := [0, 1, 4, 5, 7, 9, 12, 13, 16, 17, 20, 23, 24]
def h_X4_init : List Nat := [0, 247, 0, 0, 175, 288, 0, 248, 0, 100003, 290, 0]
def k_X4_readField : List aI := [aO 0 1 1, aC 0 (.int (-1)), aO 20 9 2, aC 0 (.int 0), aO 1 2 0, aC 0 (.int 0), aO 1 3 0, aC 0 (.int 0), aO 1 4 0, aO 0 4 0, aO 0 1 1, aO 19 9 1, aO 16 64 3, aO 0 1 1, aO 19 9 0, aO 0 4 0, aO 23 0 0, aO 1 5 0, aO 0 5 0, aC 1 (.int 32), aO 16 22 1, aO 17 62 0, aO 0 5 0, aC 1 (.int 47), aO 16 39 1, aO 0 3 0, aC 1 (.int 8), aO 16 31 2, aO 0 2 0, aC 1 (.int 7), aO 16 35 1, aO 0 1 1, aO 0 4 0, aV 95 2 [9], aO 39 0 0, aN 2 1, aC 0 (.int 0), aO 1 3 0, aO 17 62 0, aO 0 5 0, aV 31 1 [], aO 1 6 0, aO 0 6 0, aC 1 (.int (-2)), aO 16 48 0, aO 0 3 0, aC 1 (.int 8), aO 16 52 2, aO 0 1 1, aO 0 4 0, aV 95 2 [9], aO 39 0 0, aO 0 0 1, aO 19 4 0, aC 1 (.int 8), aO 0 2 0, aO 4 0 2, aO 0 3 0, aO 4 0 0, aO 0 6 0, aO 24 0 0, aN 3 1, aN 4 1, aO 17 9 0, aO 0 2 0, aC 1 (.int 7), aO 16 70 1, aO 0 3 0, aC 1 (.int 8), aO 16 75 0, aO 0 1 1, aO 0 1 1, aO 19 9 1, aV 95 2 [9], aO 15 77 0, aC 0 (.int 1), aO 17 78 0, aC 0 (.int 0), aO 39 0 0]
def p_X4_readField : List Nat := [0, 1, 2, 5, 6, 7, 8, 9, 10, 12, 14, 15, 18, 21, 22, 25, 27, 28, 30, 32, 34, 37, 40, 42, 44, 47, 48, 50, 53, 54, 56, 59, 60, 62, 65, 66, 69, 70, 71, 74, 76, 79, 81, 83, 85, 88, 89, 91, 94, 95, 97, 100, 101, 102, 105, 107, 108, 109, 110, 111, 113, 114, 117, 120, 123, 124, 126, 129, 130, 132, 135, 136, 137, 140, 143, 146, 147, 150, 151, 152]
def h_X4_readField : List Nat := [0, 0, 151, 0, 0, 0, 0, 0, 0, 0, 0, 148, 0, 0, 146, 0, 0, 0, 0, 0, 0, 0, 0, 0, 0, 0, 0, 0, 0, 0, 0, 0, 0, 797, 0, 0, 0, 0, 0, 0, 801, 0, 0, 0, 0, 0, 0, 0, 0, 0, 797, 0, 0, 288, 0, 0, 0, 0, 0, 0, 0, 0, 0, 0, 0, 0, 0, 0, 0, 0, 0, 0, 148, 797, 0, 0, 0, 0, 0]
def k_X4_directionBy : List aI := [aO 0 0 0, aC 1 (.int 46), aO 16 5 1, aC 0 (.int (-1)), aO 39 0 0, aO 0 0 0, aC 1 (.int 48), aO 16 15 2, aO 0 0 0, aC 1 (.int 55), aO 16 15 4, aO 0 0 0, aC 1 (.int 48), aO 4 0 1, aO 17 16 0, aC 1 (.int (-2)), aO 39 0 0]
def p_X4_directionBy : List Nat := [0, 1, 3, 6, 7, 8, 9, 11, 14, 15, 17, 20, 21, 23, 24, 27, 29, 30]
def h_X4_directionBy : List Nat := [0, 0, 0, 0, 0, 0, 0, 0, 0, 0, 0, 0, 0, 0, 0, 0, 0]
def k_X4_settle : List aI := [aO 0 0 1, aO 0 0 1, aV 37 1 [4], aO 20 4 2, aO 0 0 1, aO 0 0 1, aO 19 4 2, aC 0 (.int 1), aO 16 16 2, aO 0 0 1, aO 19 4 2, aC 0 (.int 4), aO 16 16 4, aO 0 0 1, aV 38 1 [4], aO 17 17 0, aC 0 (.int 0), aO 20 4 3, aO 0 0 1, aO 0 0 1, aV 40 1 [4], aO 20 4 4, aO 39 0 3]
def p_X4_settle : List Nat := [0, 1, 2, 5, 8, 9, 10, 13, 14, 17, 18, 21, 22, 25, 26, 29, 32, 33, 36, 37, 38, 41, 44, 45]
def h_X4_settle : List Nat := [0, 0, 893, 292, 0, 0, 292, 0, 0, 0, 292, 0, 0, 0, 912, 0, 0, 294, 0, 0, 925, 296, 0]
def k_X4_turnAround : List aI := [aO 0 1 0, aC 1 (.int 7), aO 5 0 1, aC 0 (.int 1), aO 4 0 0, aO 1 2 0, aO 0 1 0, aC 1 (.int 7), aO 5 0 0, aC 0 (.int 1), aO 4 0 0, aO 1 3 0, aO 0 0 1, aO 0 2 0, aC 0 (.int 1), aO 4 0 1, aO 0 3 0, aC 0 (.int 1), aO 4 0 1, aV 35 3 [4], aO 1 4 0, aO 0 0 1, aO 0 2 0, aO 0 3 0, aC 0 (.int 1), aO 4 0 1, aV 35 3 [4], aO 1 5 0, aO 0 0 1, aO 0 2 0, aO 0 3 0, aV 35 3 [4], aO 1 6 0, aO 0 0 1, aO 0 2 0, aC 0 (.int 1), aO 4 0 1, aO 0 3 0, aV 35 3 [4], aO 1 7 0, aO 0 4 0, aC 0 (.int (-1)), aO 16 52 0, aO 0 5 0, aC 0 (.int (-1)), aO 16 52 0, aO 0 6 0, aC 0 (.int (-1)), aO 16 52 0, aO 0 7 0, aC 0 (.int (-1)), aO 16 54 1, aC 0 (.int (-1)), aO 39 0 0, aO 0 4 0, aO 0 5 0, aV 34 2 [], aO 1 8 0, aO 0 5 0, aO 0 6 0, aV 34 2 [], aO 1 9 0, aO 0 6 0, aO 0 7 0, aV 34 2 [], aO 1 10 0, aO 0 7 0, aO 0 4 0, aV 34 2 [], aO 1 11 0, aO 0 8 0, aC 0 (.int 4), aO 16 82 0, aO 0 9 0, aC 0 (.int 4), aO 16 82 0, aO 0 10 0, aC 0 (.int 4), aO 16 82 0, aO 0 11 0, aC 0 (.int 4), aO 16 84 1, aC 0 (.int (-1)), aO 39 0 0, aO 0 8 0, aO 0 9 0, aO 4 0 0, aO 0 10 0, aO 4 0 0, aO 0 11 0, aO 4 0 0, aO 39 0 0]
def p_X4_turnAround : List Nat := [0, 1, 3, 4, 5, 6, 7, 8, 10, 11, 12, 13, 14, 15, 16, 17, 18, 19, 20, 21, 24, 26, 27, 28, 29, 30, 31, 34, 36, 37, 38, 39, 42, 44, 45, 46, 47, 48, 49, 52, 54, 56, 57, 60, 62, 63, 66, 68, 69, 72, 74, 75, 78, 79, 80, 82, 84, 87, 89, 91, 93, 96, 98, 100, 102, 105, 107, 109, 111, 114, 116, 118, 119, 122, 124, 125, 128, 130, 131, 134, 136, 137, 140, 141, 142, 144, 146, 147, 149, 150, 152, 153, 154]
def h_X4_turnAround : List Nat := [0, 0, 0, 0, 0, 0, 0, 0, 0, 0, 0, 0, 0, 0, 0, 0, 0, 0, 0, 901, 0, 0, 0, 0, 0, 0, 901, 0, 0, 0, 0, 901, 0, 0, 0, 0, 0, 0, 901, 0, 0, 0, 0, 0, 0, 0, 0, 0, 0, 0, 0, 0, 0, 0, 0, 0, 905, 0, 0, 0, 905, 0, 0, 0, 905, 0, 0, 0, 905, 0, 0, 0, 0, 0, 0, 0, 0, 0, 0, 0, 0, 0, 0, 0, 0, 0, 0, 0, 0, 0, 0, 0]
def k_X4_step : List aI := [aO 0 1 0, aO 0 0 0, aO 4 0 1, aC 1 (.int 7), aO 4 0 3, aO 1 2 0, aO 0 2 0, aC 0 (.int 4), aO 16 13 5, aO 0 2 0, aC 1 (.int 8), aO 4 0 1, aO 17 14 0, aO 0 2 0, aO 39 0 0]
def p_X4_step : List Nat := [0, 1, 2, 3, 5, 6, 7, 8, 9, 12, 13, 15, 16, 19, 20, 21]
def h_X4_step : List Nat := [0, 0, 0, 0, 0, 0, 0, 0, 0, 0, 0, 0, 0, 0, 0]
def k_X4_direction : List aI := [aO 0 1 0, aO 15 19 2, aO 0 1 0, aC 1 (.int 8), aO 16 19 3, aO 0 2 0, aO 15 19 2, aO 0 2 0, aC 1 (.int 8), aO 16 19 3, aO 0 0 1, aO 19 4 0, aC 1 (.int 8), aO 0 2 0, aO 4 0 2, aO 0 1 0, aO 4 0 0, aO 23 0 0, aO 17 20 0, aC 0 (.int (-1)), aO 39 0 0]
def p_X4_direction : List Nat := [0, 1, 4, 5, 7, 10, 11, 14, 15, 17, 20, 21, 24, 26, 27, 28, 29, 30, 31, 34, 35, 36]
def h_X4_direction : List Nat := [0, 0, 0, 0, 0, 0, 0, 0, 0, 0, 0, 288, 0, 0, 0, 0, 0, 0, 0, 0, 0]
def k_X4_cornerOf : List aI := [aC 0 (.int 0), aO 1 3 0, aC 0 (.int 0), aO 1 4 0, aO 0 4 0, aC 1 (.int 49), aO 16 21 3, aO 0 0 1, aO 0 4 0, aV 33 2 [4], aO 0 2 0, aO 16 13 0, aO 17 19 0, aO 0 3 0, aO 0 1 0, aO 16 18 1, aO 0 4 0, aO 39 0 0, aN 3 1, aN 4 1, aO 17 4 0, aC 0 (.int (-1)), aO 39 0 0]
def p_X4_cornerOf : List Nat := [0, 1, 2, 3, 5, 7, 9, 12, 13, 15, 18, 19, 22, 25, 26, 27, 30, 32, 33, 36, 39, 42, 43, 44]
def h_X4_cornerOf : List Nat := [0, 0, 0, 0, 0, 0, 0, 0, 0, 897, 0, 0, 0, 0, 0, 0, 0, 0, 0, 0, 0, 0, 0]
def k_X4_findPattern : List aI := [aC 0 (.int 0), aO 1 1 0, aC 0 (.int 0), aO 1 2 0, aC 0 (.int 0), aO 1 3 0, aO 0 3 0, aC 1 (.int 49), aO 16 33 3, aO 0 0 1, aO 0 3 0, aV 33 2 [4], aO 1 4 0, aO 0 1 0, aO 0 4 0, aC 1 (.int 8), aO 16 19 1, aC 0 (.int 1), aO 17 20 0, aC 0 (.int 0), aO 4 0 0, aO 1 1 0, aO 0 2 0, aO 0 4 0, aC 1 (.int (-8)), aO 16 28 1, aC 0 (.int 1), aO 17 29 0, aC 0 (.int 0), aO 4 0 0, aO 1 2 0, aN 3 1, aO 17 6 0, aO 0 1 0, aO 15 39 1, aO 0 2 0, aO 15 39 1, aC 0 (.int 0), aO 39 0 0, aO 0 1 0, aC 0 (.int 2), aO 16 47 1, aO 0 2 0, aC 0 (.int 2), aO 16 47 1, aC 0 (.int 4), aO 39 0 0, aO 0 1 0, aC 0 (.int 1), aO 16 53 1, aO 0 2 0, aC 0 (.int 1), aO 16 55 0, aC 0 (.int 5), aO 39 0 0, aO 0 0 1, aC 0 (.int 0), aC 1 (.int 8), aV 36 3 [4], aC 1 (.int 7), aO 5 0 1, aO 1 3 0, aO 0 0 1, aC 0 (.int 0), aC 1 (.int (-8)), aV 36 3 [4], aC 1 (.int 7), aO 5 0 1, aO 1 4 0, aO 0 3 0, aO 0 4 0, aO 16 74 1, aC 0 (.int 1), aO 39 0 0, aO 0 4 0, aO 0 3 0, aO 16 79 5, aC 0 (.int 2), aO 17 80 0, aC 0 (.int 3), aO 39 0 0]
def p_X4_findPattern : List Nat := [0, 1, 2, 3, 4, 5, 6, 7, 9, 12, 13, 14, 17, 19, 20, 22, 24, 27, 28, 31, 32, 33, 34, 35, 37, 39, 42, 43, 46, 47, 48, 49, 52, 55, 56, 59, 60, 63, 64, 65, 66, 67, 70, 71, 72, 75, 76, 77, 78, 79, 82, 83, 84, 87, 88, 89, 90, 91, 93, 96, 98, 99, 100, 101, 102, 104, 107, 109, 110, 112, 113, 115, 118, 119, 120, 122, 123, 126, 127, 130, 131, 132]
def h_X4_findPattern : List Nat := [0, 0, 0, 0, 0, 0, 0, 0, 0, 0, 0, 897, 0, 0, 0, 0, 0, 0, 0, 0, 0, 0, 0, 0, 0, 0, 0, 0, 0, 0, 0, 0, 0, 0, 0, 0, 0, 0, 0, 0, 0, 0, 0, 0, 0, 0, 0, 0, 0, 0, 0, 0, 0, 0, 0, 0, 0, 0, 908, 0, 0, 0, 0, 0, 0, 908, 0, 0, 0, 0, 0, 0, 0, 0, 0, 0, 0, 0, 0, 0, 0]
def k_X4_countRidges : List aI := [aO 0 0 1, aC 0 (.int 0), aC 1 (.int 8), aV 36 3 [4], aO 1 1 0, aO 0 0 1, aC 0 (.int 0), aC 1 (.int (-8)), aV 36 3 [4], aO 1 2 0, aO 0 1 0, aC 1 (.int 7), aO 5 0 1, aC 0 (.int 1), aO 4 0 0, aO 1 3 0, aO 0 1 0, aC 1 (.int 7), aO 5 0 0, aC 0 (.int 1), aO 4 0 0, aO 1 4 0, aO 0 2 0, aC 1 (.int 7), aO 5 0 1, aC 0 (.int 1), aO 4 0 0, aO 1 5 0, aO 0 2 0, aC 1 (.int 7), aO 5 0 0, aC 0 (.int 1), aO 4 0 0, aO 1 6 0, aC 0 (.int 0), aO 1 7 0, aO 0 3 0, aO 0 5 0, aV 336 2 [], aO 1 8 0, aO 0 8 0, aO 0 3 0, aO 0 5 0, aV 335 2 [], aO 16 56 3, aO 0 7 0, aO 0 0 1, aO 0 8 0, aO 0 4 0, aV 35 3 [4], aO 43 0 0, aV 39 2 [], aO 4 0 0, aO 1 7 0, aN 8 1, aO 17 40 0, aO 0 4 0, aO 0 6 0, aV 336 2 [], aO 1 8 0, aO 0 8 0, aO 0 4 0, aO 0 6 0, aV 335 2 [], aO 16 76 3, aO 0 7 0, aO 0 0 1, aO 0 5 0, aO 0 8 0, aV 35 3 [4], aO 43 1 0, aV 39 2 [], aO 4 0 0, aO 1 7 0, aN 8 1, aO 17 60 0, aO 0 7 0, aO 39 0 0]
def p_X4_countRidges : List Nat := [0, 1, 2, 4, 7, 8, 9, 10, 12, 15, 16, 17, 19, 20, 21, 22, 23, 24, 26, 27, 28, 29, 31, 32, 34, 35, 36, 37, 39, 40, 42, 43, 44, 45, 47, 48, 50, 51, 53, 56, 58, 60, 61, 63, 66, 69, 71, 72, 74, 76, 79, 82, 85, 86, 88, 91, 94, 96, 98, 101, 103, 105, 107, 109, 112, 115, 117, 118, 120, 122, 125, 128, 131, 132, 134, 137, 140, 142, 143]
def h_X4_countRidges : List Nat := [0, 0, 0, 908, 0, 0, 0, 0, 908, 0, 0, 0, 0, 0, 0, 0, 0, 0, 0, 0, 0, 0, 0, 0, 0, 0, 0, 0, 0, 0, 0, 0, 0, 0, 0, 0, 0, 0, 916, 0, 0, 0, 0, 917, 0, 0, 0, 0, 0, 901, 918, 920, 0, 0, 0, 0, 0, 0, 916, 0, 0, 0, 0, 917, 0, 0, 0, 0, 0, 901, 923, 920, 0, 0, 0, 0, 0, 0]
def k_X4_ridgesBy : List aI := [aO 0 0 0, aO 15 10 2, aO 0 0 0, aO 0 1 1, aO 22 0 0, aO 16 10 3, aO 0 1 1, aO 0 0 0, aO 23 0 0, aO 17 11 0, aC 0 (.int 0), aO 39 0 0]
def p_X4_ridgesBy : List Nat := [0, 1, 4, 5, 6, 7, 10, 11, 12, 13, 16, 17, 18]
def h_X4_ridgesBy : List Nat := [0, 0, 0, 0, 0, 0, 0, 0, 0, 0, 0, 0]
def k_X4_findClass : List aI := [aO 0 0 1, aO 19 4 3, aC 1 (.int 9), aO 16 6 5, aC 0 (.int 1), aO 17 7 0, aC 0 (.int 0), aO 1 1 0, aO 0 0 1, aO 19 4 2, aT 23 2 [11, 15, 19, 21], aC 0 (.int 2), aO 0 1 0, aO 4 0 0, aO 39 0 0, aC 0 (.int 4), aO 0 1 0, aO 4 0 0, aO 39 0 0, aC 1 (.int 6), aO 39 0 0, aC 1 (.int 7), aO 39 0 0, aO 0 0 1, aO 19 4 2, aO 39 0 0]
def p_X4_findClass : List Nat := [0, 1, 4, 6, 9, 10, 13, 14, 15, 16, 19, 48, 49, 50, 51, 52, 53, 54, 55, 56, 58, 59, 61, 62, 63, 66, 67]
def h_X4_findClass : List Nat := [0, 294, 0, 0, 0, 0, 0, 0, 0, 292, 0, 0, 0, 0, 0, 0, 0, 0, 0, 0, 0, 0, 0, 0, 292, 0]
def k_X4_copyFrom : List aI := [aO 0 1 1, aO 19 4 0, aO 0 0 1, aO 19 4 0, aV 176 2 [], aO 0 0 1, aO 19 4 1, aO 0 1 1, aO 19 4 1, aV 66 2 [6], aO 0 0 1, aO 0 1 1, aO 19 4 2, aO 20 4 2, aO 0 0 1, aO 0 1 1, aO 19 4 3, aO 20 4 3, aO 0 0 1, aO 0 1 1, aO 19 4 4, aO 20 4 4, aO 39 0 3]
def p_X4_copyFrom : List Nat := [0, 1, 4, 5, 8, 11, 12, 15, 16, 19, 22, 23, 24, 27, 30, 31, 32, 35, 38, 39, 40, 43, 46, 47]
def h_X4_copyFrom : List Nat := [0, 288, 0, 288, 100012, 0, 290, 0, 290, 738, 0, 0, 292, 292, 0, 0, 294, 294, 0, 0, 296, 296, 0]
def k_X5_init : List aI := [aO 0 0 1, aO 37 0 0, aO 0 0 1, aC 1 (.int 12), aO 32 0 0, aO 21 5 3, aO 0 0 1, aC 1 (.int 12), aO 32 0 0, aO 21 5 4, aO 0 0 1, aC 1 (.int 12), aO 32 0 0, aO 21 5 5, aO 0 0 1, aC 1 (.int 12), aO 32 0 0, aO 21 5 6, aO 0 0 1, aC 2 (.int 400), aO 32 0 0, aO 21 5 7, aO 39 0 3]
def p_X5_init : List Nat := [0, 1, 4, 5, 7, 9, 12, 13, 15, 17, 20, 21, 23, 25, 28, 29, 31, 33, 36, 37, 40, 42, 45, 46]
def h_X5_init : List Nat := [0, 194, 0, 0, 175, 201, 0, 0, 175, 202, 0, 0, 175, 203, 0, 0, 175, 204, 0, 0, 175, 205, 0]
def k_X5_readRules : List aI := [aO 0 0 1, aC 0 (.int 0), aO 20 5 1, aO 0 0 1, aC 0 (.int 0), aO 20 5 2, aO 0 1 1, aV 97 1 [9], aO 0 1 1, aV 105 1 [9], aC 1 (.int 21), aO 16 14 1, aC 0 (.int 1), aO 39 0 0, aC 0 (.int 0), aO 1 2 0, aO 0 2 0, aC 1 (.int 12), aO 16 40 3, aO 0 0 1, aO 0 1 1, aV 44 2 [5], aO 15 25 1, aC 0 (.int 0), aO 39 0 0, aO 0 1 1, aV 105 1 [9], aC 1 (.int 21), aO 16 31 1, aC 0 (.int 1), aO 39 0 0, aO 0 1 1, aC 2 (.int 159), aV 106 2 [9], aO 15 38 1, aO 0 1 1, aV 96 1 [9], aO 39 0 0, aN 2 1, aO 17 16 0, aO 0 1 1, aV 96 1 [9], aO 39 0 0]
def p_X5_readRules : List Nat := [0, 1, 2, 5, 6, 7, 10, 11, 14, 15, 18, 20, 23, 24, 25, 26, 27, 28, 30, 33, 34, 35, 38, 41, 42, 43, 44, 47, 49, 52, 53, 54, 55, 58, 61, 64, 65, 68, 69, 72, 75, 76, 79, 80]
def h_X5_readRules : List Nat := [0, 0, 198, 0, 0, 200, 0, 1182, 0, 1260, 0, 0, 0, 0, 0, 0, 0, 0, 0, 0, 0, 1264, 0, 0, 0, 0, 1260, 0, 0, 0, 0, 0, 0, 1268, 0, 0, 1273, 0, 0, 0, 0, 1273, 0]
def k_X5_readRule : List aI := [aO 0 1 1, aV 105 1 [9], aO 1 2 0, aO 0 2 0, aO 15 16 2, aO 0 2 0, aC 0 (.int 5), aO 16 16 4, aO 0 0 1, aO 19 5 1, aC 1 (.int 12), aO 16 16 3, aO 0 1 1, aO 0 2 0, aV 106 2 [9], aO 15 19 1, aO 0 1 1, aV 96 1 [9], aO 39 0 0, aO 0 2 0, aO 0 1 1, aV 45 2 [], aO 1 3 0, aO 0 3 0, aC 0 (.int (-1)), aO 16 28 1, aC 0 (.int 0), aO 39 0 0, aO 0 0 1, aO 19 5 2, aO 1 4 0, aO 0 2 0, aO 15 39 0, aO 0 2 0, aC 0 (.int 1), aO 16 39 0, aO 0 2 0, aC 0 (.int 5), aO 16 41 1, aC 0 (.int 1), aO 17 42 0, aC 0 (.int 0), aO 1 5 0, aO 0 5 0, aO 15 48 1, aO 0 2 0, aC 0 (.int 4), aO 16 59 1, aO 0 1 1, aC 1 (.int 6), aV 106 2 [9], aO 15 59 0, aO 0 0 1, aO 0 1 1, aC 0 (.int 0), aV 46 3 [5], aO 15 64 1, aC 0 (.int 0), aO 39 0 0, aO 0 5 0, aO 15 64 0, aO 0 1 1, aV 96 1 [9], aO 39 0 0, aO 0 0 1, aO 19 5 3, aO 0 0 1, aO 19 5 1, aO 0 2 0, aO 24 0 0, aO 0 0 1, aO 19 5 4, aO 0 0 1, aO 19 5 1, aO 0 3 0, aO 24 0 0, aO 0 0 1, aO 19 5 5, aO 0 0 1, aO 19 5 1, aO 0 4 0, aO 24 0 0, aO 0 0 1, aO 19 5 6, aO 0 0 1, aO 19 5 1, aO 0 0 1, aO 19 5 2, aO 24 0 0, aO 0 0 1, aO 12 0 0, aO 19 5 1, aC 0 (.int 1), aO 4 0 0, aO 20 5 1, aC 0 (.int 1), aO 39 0 0]
def p_X5_readRule : List Nat := [0, 1, 4, 5, 6, 9, 10, 11, 14, 15, 18, 20, 23, 24, 25, 28, 31, 32, 35, 36, 37, 38, 41, 42, 43, 44, 47, 48, 49, 50, 53, 55, 56, 59, 60, 61, 64, 65, 66, 69, 70, 73, 74, 76, 78, 81, 82, 83, 86, 87, 89, 92, 95, 96, 97, 98, 101, 104, 105, 106, 108, 111, 112, 115, 116, 117, 120, 121, 124, 125, 126, 127, 130, 131, 134, 135, 136, 137, 140, 141, 144, 146, 147, 148, 151, 152, 155, 156, 159, 160, 161, 162, 165, 166, 167, 170, 171, 172]
def h_X5_readRule : List Nat := [0, 1260, 0, 0, 0, 0, 0, 0, 0, 198, 0, 0, 0, 0, 1268, 0, 0, 1273, 0, 0, 0, 1277, 0, 0, 0, 0, 0, 0, 0, 200, 0, 0, 0, 0, 0, 0, 0, 0, 0, 0, 0, 0, 0, 0, 0, 0, 0, 0, 0, 0, 1268, 0, 0, 0, 0, 1285, 0, 0, 0, 0, 0, 0, 1273, 0, 0, 201, 0, 198, 0, 0, 0, 202, 0, 198, 0, 0, 0, 203, 0, 198, 0, 0, 0, 204, 0, 198, 0, 200, 0, 0, 0, 198, 0, 0, 198, 0, 0]
def k_X5_takeNumberOf : List aI := [aO 0 0 0, aT 17 2 [2, 7, 12], aO 0 1 1, aC 0 (.int 1), aC 1 (.int 6), aV 107 3 [9], aO 39 0 0, aO 0 1 1, aC 0 (.int 1), aC 1 (.int 10), aV 107 3 [9], aO 39 0 0, aO 0 1 1, aC 0 (.int 0), aC 2 (.int 9999), aV 107 3 [9], aO 39 0 0, aC 0 (.int 0), aO 39 0 0]
def p_X5_takeNumberOf : List Nat := [0, 1, 28, 29, 30, 32, 35, 36, 37, 38, 40, 43, 44, 45, 46, 49, 52, 53, 54, 55]
def h_X5_takeNumberOf : List Nat := [0, 0, 0, 0, 0, 1280, 0, 0, 0, 0, 1280, 0, 0, 0, 0, 1280, 0, 0, 0]
def k_X5_readAny : List aI := [aC 0 (.int 0), aO 1 3 0, aO 0 3 0, aC 2 (.int 400), aO 16 28 3, aO 0 0 1, aO 0 1 1, aO 0 2 0, aV 47 3 [5], aO 15 18 0, aO 0 3 0, aO 15 20 5, aO 0 0 1, aC 0 (.int 5), aC 0 (.int 0), aC 0 (.int 0), aV 50 4 [5], aO 15 20 1, aC 0 (.int 0), aO 39 0 0, aO 0 1 1, aC 1 (.int 8), aV 106 2 [9], aO 15 26 1, aC 0 (.int 1), aO 39 0 0, aN 3 1, aO 17 2 0, aO 0 1 1, aV 96 1 [9], aO 39 0 0]
def p_X5_readAny : List Nat := [0, 1, 2, 3, 6, 9, 10, 11, 12, 15, 18, 19, 22, 23, 24, 25, 26, 29, 32, 33, 34, 35, 37, 40, 43, 44, 45, 48, 51, 52, 55, 56]
def h_X5_readAny : List Nat := [0, 0, 0, 0, 0, 0, 0, 0, 1289, 0, 0, 0, 0, 0, 0, 0, 1301, 0, 0, 0, 0, 0, 1268, 0, 0, 0, 0, 0, 0, 1273, 0]
def k_X5_readAll : List aI := [aC 0 (.int 0), aO 1 3 0, aO 0 3 0, aC 2 (.int 400), aO 16 28 3, aO 0 0 1, aO 0 1 1, aO 0 2 0, aV 48 3 [5], aO 15 18 0, aO 0 3 0, aO 15 20 5, aO 0 0 1, aC 0 (.int 4), aC 0 (.int 0), aC 0 (.int 0), aV 50 4 [5], aO 15 20 1, aC 0 (.int 0), aO 39 0 0, aO 0 1 1, aC 1 (.int 7), aV 106 2 [9], aO 15 26 1, aC 0 (.int 1), aO 39 0 0, aN 3 1, aO 17 2 0, aO 0 1 1, aV 96 1 [9], aO 39 0 0]
def p_X5_readAll : List Nat := [0, 1, 2, 3, 6, 9, 10, 11, 12, 15, 18, 19, 22, 23, 24, 25, 26, 29, 32, 33, 34, 35, 37, 40, 43, 44, 45, 48, 51, 52, 55, 56]
def h_X5_readAll : List Nat := [0, 0, 0, 0, 0, 0, 0, 0, 1293, 0, 0, 0, 0, 0, 0, 0, 1301, 0, 0, 0, 0, 0, 1268, 0, 0, 0, 0, 0, 0, 1273, 0]
def k_X5_readAtom : List aI := [aO 0 1 1, aV 105 1 [9], aO 1 3 0, aO 0 3 0, aC 1 (.int 9), aO 16 9 0, aO 0 3 0, aC 2 (.int 140), aO 16 22 1, aO 0 2 0, aC 1 (.int 6), aO 16 19 3, aO 0 0 1, aO 0 1 1, aO 0 2 0, aC 0 (.int 1), aO 4 0 0, aV 49 3 [5], aO 17 21 0, aO 0 1 1, aV 96 1 [9], aO 39 0 0, aO 0 3 0, aC 1 (.int 10), aO 16 32 2, aO 0 3 0, aC 1 (.int 18), aO 16 32 4, aO 0 1 1, aO 0 3 0, aV 106 2 [9], aO 15 35 1, aO 0 1 1, aV 96 1 [9], aO 39 0 0, aO 0 3 0, aC 1 (.int 14), aO 16 46 3, aO 0 0 1, aC 0 (.int 0), aO 0 3 0, aC 1 (.int 10), aO 4 0 1, aC 0 (.int 0), aV 50 4 [5], aO 39 0 0, aO 0 1 1, aC 2 (.int 160), aV 106 2 [9], aO 1 4 0, aO 0 4 0, aO 15 59 1, aO 0 1 1, aC 2 (.int 162), aV 106 2 [9], aO 15 59 1, aO 0 1 1, aV 96 1 [9], aO 39 0 0, aO 0 1 1, aC 0 (.int 0), aC 2 (.int 9999), aV 107 3 [9], aO 1 5 0, aO 0 5 0, aC 0 (.int (-1)), aO 16 81 0, aO 0 0 1, aO 0 4 0, aO 15 72 0, aC 0 (.int 1), aO 17 73 0, aC 0 (.int 2), aO 0 3 0, aC 1 (.int 14), aO 4 0 1, aO 0 5 0, aV 50 4 [5], aO 15 81 0, aC 0 (.int 1), aO 17 82 0, aC 0 (.int 0), aO 39 0 0]
def p_X5_readAtom : List Nat := [0, 1, 4, 5, 6, 8, 11, 12, 15, 18, 19, 21, 24, 25, 26, 27, 28, 29, 32, 35, 36, 39, 40, 41, 43, 46, 47, 49, 52, 53, 54, 57, 60, 61, 64, 65, 66, 68, 71, 72, 73, 74, 76, 77, 78, 81, 82, 83, 86, 89, 91, 93, 96, 97, 100, 103, 106, 107, 110, 111, 112, 113, 116, 119, 121, 123, 124, 127, 128, 130, 133, 134, 137, 138, 139, 141, 142, 144, 147, 150, 151, 154, 155, 156]
def h_X5_readAtom : List Nat := [0, 1260, 0, 0, 0, 0, 0, 0, 0, 0, 0, 0, 0, 0, 0, 0, 0, 1297, 0, 0, 1273, 0, 0, 0, 0, 0, 0, 0, 0, 0, 1268, 0, 0, 1273, 0, 0, 0, 0, 0, 0, 0, 0, 0, 0, 1301, 0, 0, 0, 1268, 0, 0, 0, 0, 0, 1268, 0, 0, 1273, 0, 0, 0, 0, 1280, 0, 0, 0, 0, 0, 0, 0, 0, 0, 0, 0, 0, 0, 0, 1301, 0, 0, 0, 0, 0]
def k_X5_readDeeper : List aI := [aO 0 1 1, aC 1 (.int 9), aV 106 2 [9], aO 15 19 0, aO 0 0 1, aO 0 1 1, aO 0 2 0, aV 48 3 [5], aO 15 17 0, aO 0 0 1, aC 0 (.int 3), aC 0 (.int 0), aC 0 (.int 0), aV 50 4 [5], aO 15 17 0, aC 0 (.int 1), aO 17 18 0, aC 0 (.int 0), aO 39 0 0, aO 0 1 1, aC 2 (.int 140), aV 106 2 [9], aO 15 37 0, aO 0 0 1, aO 0 1 1, aO 0 2 0, aV 46 3 [5], aO 15 37 0, aO 0 1 1, aC 2 (.int 141), aV 106 2 [9], aO 15 35 1, aO 0 1 1, aV 96 1 [9], aO 15 37 0, aC 0 (.int 1), aO 17 38 0, aC 0 (.int 0), aO 39 0 0]
def p_X5_readDeeper : List Nat := [0, 1, 3, 6, 9, 10, 11, 12, 15, 18, 19, 20, 21, 22, 25, 28, 29, 32, 33, 34, 35, 38, 41, 44, 45, 46, 47, 50, 53, 54, 57, 60, 63, 64, 67, 70, 71, 74, 75, 76]
def h_X5_readDeeper : List Nat := [0, 0, 1268, 0, 0, 0, 0, 1293, 0, 0, 0, 0, 0, 1301, 0, 0, 0, 0, 0, 0, 0, 1268, 0, 0, 0, 0, 1285, 0, 0, 0, 1268, 0, 0, 1273, 0, 0, 0, 0, 0]
def k_X5_emit : List aI := [aO 0 0 1, aO 19 5 2, aO 0 0 1, aO 19 5 7, aO 22 0 0, aO 16 8 2, aC 0 (.int 0), aO 39 0 0, aO 0 0 1, aO 19 5 7, aO 0 0 1, aO 19 5 2, aO 0 1 0, aO 0 2 0, aC 0 (.int 3), aO 4 0 6, aO 4 0 4, aO 0 3 0, aC 1 (.int 6), aO 4 0 6, aO 4 0 4, aO 24 0 0, aO 0 0 1, aO 12 0 0, aO 19 5 2, aC 0 (.int 1), aO 4 0 0, aO 20 5 2, aC 0 (.int 1), aO 39 0 0]
def p_X5_emit : List Nat := [0, 1, 4, 5, 8, 9, 12, 13, 14, 15, 18, 19, 22, 23, 24, 25, 26, 27, 28, 30, 31, 32, 33, 34, 35, 38, 39, 40, 43, 44, 45]
def h_X5_emit : List Nat := [0, 200, 0, 205, 0, 0, 0, 0, 0, 205, 0, 200, 0, 0, 0, 0, 0, 0, 0, 0, 0, 0, 0, 0, 200, 0, 0, 200, 0, 0]
def k_X5_holds : List aI := [aC 0 (.int 1), aO 1 3 0, aO 0 0 1, aO 19 5 5, aO 0 1 0, aO 23 0 0, aO 1 4 0, aO 0 4 0, aO 0 0 1, aO 19 5 6, aO 0 1 0, aO 23 0 0, aO 16 76 3, aO 0 4 0, aO 0 0 1, aO 19 5 7, aO 22 0 0, aO 16 76 3, aO 0 0 1, aO 19 5 7, aO 0 4 0, aO 23 0 0, aO 1 5 0, aO 0 3 0, aC 0 (.int 1), aO 4 0 3, aO 1 6 0, aO 0 5 0, aC 1 (.int 7), aO 4 0 3, aT 52 3 [31, 36, 45], aO 0 3 0, aC 0 (.int 1), aO 4 0 5, aO 1 3 0, aO 17 74 0, aO 0 3 0, aC 0 (.int 1), aO 4 0 7, aO 0 6 0, aC 1 (.int (-2)), aO 4 0 4, aO 4 0 3, aO 1 3 0, aO 17 74 0, aO 0 3 0, aC 0 (.int 1), aO 4 0 7, aO 0 6 0, aO 4 0 4, aO 1 3 0, aO 17 74 0, aO 0 3 0, aC 0 (.int 1), aO 4 0 6, aO 0 2 1, aO 0 5 0, aC 1 (.int 7), aO 4 0 3, aO 0 5 0, aC 0 (.int 3), aO 4 0 7, aC 1 (.int 7), aO 4 0 3, aO 0 5 0, aC 1 (.int 6), aO 4 0 7, aV 13 4 [1], aO 15 71 0, aC 0 (.int 1), aO 17 72 0, aC 0 (.int 0), aO 4 0 4, aO 1 3 0, aN 4 1, aO 17 7 0, aO 0 3 0, aC 0 (.int 1), aO 4 0 3, aC 0 (.int 1), aO 16 83 1, aC 0 (.int 1), aO 17 84 0, aC 0 (.int 0), aO 39 0 0]
def p_X5_holds : List Nat := [0, 1, 2, 3, 6, 7, 8, 10, 12, 13, 16, 17, 18, 21, 23, 24, 27, 28, 31, 32, 35, 37, 38, 40, 41, 42, 43, 45, 47, 49, 50, 76, 77, 78, 79, 80, 83, 84, 85, 86, 88, 90, 91, 92, 93, 96, 97, 98, 99, 101, 102, 103, 106, 107, 108, 109, 110, 112, 114, 115, 117, 118, 119, 121, 122, 124, 126, 127, 130, 133, 134, 137, 138, 139, 140, 143, 146, 147, 148, 149, 150, 153, 154, 157, 158, 159]
def h_X5_holds : List Nat := [0, 0, 0, 203, 0, 0, 0, 0, 0, 204, 0, 0, 0, 0, 0, 205, 0, 0, 0, 205, 0, 0, 0, 0, 0, 0, 0, 0, 0, 0, 0, 0, 0, 0, 0, 0, 0, 0, 0, 0, 0, 0, 0, 0, 0, 0, 0, 0, 0, 0, 0, 0, 0, 0, 0, 0, 0, 0, 0, 0, 0, 0, 0, 0, 0, 0, 0, 686, 0, 0, 0, 0, 0, 0, 0, 0, 0, 0, 0, 0, 0, 0, 0, 0, 0]
def k_X5_firstHolding : List aI := [aC 0 (.int 0), aO 1 3 0, aO 0 3 0, aO 0 0 1, aO 19 5 1, aO 16 21 3, aO 0 0 1, aO 19 5 3, aO 0 3 0, aO 23 0 0, aO 0 1 0, aO 16 19 1, aO 0 0 1, aO 0 3 0, aO 0 2 1, aV 51 3 [5], aO 15 19 0, aO 0 3 0, aO 39 0 0, aN 3 1, aO 17 2 0, aC 0 (.int (-1)), aO 39 0 0]
def p_X5_firstHolding : List Nat := [0, 1, 2, 3, 4, 7, 10, 11, 14, 15, 16, 17, 20, 21, 22, 23, 26, 29, 30, 31, 34, 37, 38, 39]
def h_X5_firstHolding : List Nat := [0, 0, 0, 0, 198, 0, 0, 201, 0, 0, 0, 0, 0, 0, 0, 682, 0, 0, 0, 0, 0, 0, 0]
def k_X5_decidingRule : List aI := [aO 0 0 1, aC 0 (.int 0), aO 0 1 1, aV 52 3 [5], aO 1 2 0, aO 0 2 0, aC 0 (.int (-1)), aO 16 10 0, aO 0 2 0, aO 17 14 0, aO 0 0 1, aC 0 (.int 1), aO 0 1 1, aV 52 3 [5], aO 39 0 0]
def p_X5_decidingRule : List Nat := [0, 1, 2, 3, 6, 7, 8, 9, 12, 13, 16, 17, 18, 19, 22, 23]
def h_X5_decidingRule : List Nat := [0, 0, 0, 678, 0, 0, 0, 0, 0, 0, 0, 0, 0, 678, 0]
def k_X5_verdictBy : List aI := [aO 0 1 0, aO 15 6 2, aO 0 1 0, aO 0 0 1, aO 19 5 1, aO 16 8 2, aC 0 (.int 0), aO 39 0 0, aO 0 0 1, aO 19 5 3, aO 0 1 0, aO 23 0 0, aO 15 15 1, aC 0 (.int 2), aO 17 16 0, aC 0 (.int 1), aO 39 0 0]
def p_X5_verdictBy : List Nat := [0, 1, 4, 5, 6, 9, 12, 13, 14, 15, 18, 19, 20, 23, 24, 27, 28, 29]
def h_X5_verdictBy : List Nat := [0, 0, 0, 0, 198, 0, 0, 0, 0, 201, 0, 0, 0, 0, 0, 0, 0]
def k_X5_lastNumber : List aI := [aO 0 0 1, aO 19 5 1, aC 0 (.int 1), aO 4 0 1, aO 1 3 0, aO 0 3 0, aO 15 20 2, aO 0 0 1, aO 19 5 3, aO 0 3 0, aO 23 0 0, aO 0 1 0, aO 16 18 1, aO 0 0 1, aO 19 5 4, aO 0 3 0, aO 23 0 0, aO 39 0 0, aN 3 (-1), aO 17 5 0, aO 0 2 0, aO 39 0 0]
def p_X5_lastNumber : List Nat := [0, 1, 4, 5, 6, 7, 8, 11, 12, 15, 16, 17, 18, 21, 22, 25, 26, 27, 28, 31, 34, 35, 36]
def h_X5_lastNumber : List Nat := [0, 198, 0, 0, 0, 0, 0, 0, 201, 0, 0, 0, 0, 0, 202, 0, 0, 0, 0, 0, 0, 0]
def k_X5_hasKind : List aI := [aO 0 0 1, aO 0 1 0, aC 0 (.int (-1)), aV 55 3 [5], aC 0 (.int (-1)), aO 16 8 0, aC 0 (.int 1), aO 17 9 0, aC 0 (.int 0), aO 39 0 0]
def p_X5_hasKind : List Nat := [0, 1, 2, 3, 6, 7, 10, 11, 14, 15, 16]
def h_X5_hasKind : List Nat := [0, 0, 0, 1467, 0, 0, 0, 0, 0, 0]
def k_X5_keptBy : List aI := [aC 0 (.int 0), aO 1 2 0, aC 0 (.int 0), aO 1 3 0, aO 0 3 0, aO 0 0 1, aO 19 5 1, aO 16 32 3, aO 0 0 1, aO 19 5 3, aO 0 3 0, aO 23 0 0, aC 0 (.int 4), aO 16 30 1, aO 0 0 1, aO 19 5 4, aO 0 3 0, aO 23 0 0, aO 0 2 0, aO 16 30 5, aO 0 0 1, aO 0 3 0, aO 0 1 1, aV 51 3 [5], aO 15 30 0, aO 0 0 1, aO 19 5 4, aO 0 3 0, aO 23 0 0, aO 1 2 0, aN 3 1, aO 17 4 0, aO 0 2 0, aO 39 0 0]
def p_X5_keptBy : List Nat := [0, 1, 2, 3, 4, 5, 6, 9, 12, 13, 16, 17, 18, 19, 22, 23, 26, 27, 28, 29, 32, 33, 34, 35, 38, 41, 42, 45, 46, 47, 48, 51, 54, 55, 56]
def h_X5_keptBy : List Nat := [0, 0, 0, 0, 0, 0, 198, 0, 0, 201, 0, 0, 0, 0, 0, 202, 0, 0, 0, 0, 0, 0, 0, 682, 0, 0, 202, 0, 0, 0, 0, 0, 0, 0]
def k_X5_copyFrom : List aI := [aO 0 0 1, aO 0 1 1, aO 19 5 0, aO 20 5 0, aO 0 0 1, aO 0 1 1, aO 19 5 1, aO 20 5 1, aO 0 0 1, aO 0 1 1, aO 19 5 2, aO 20 5 2, aO 0 1 1, aO 19 5 3, aO 0 0 1, aO 19 5 3, aV 176 2 [], aO 0 1 1, aO 19 5 4, aO 0 0 1, aO 19 5 4, aV 176 2 [], aO 0 1 1, aO 19 5 5, aO 0 0 1, aO 19 5 5, aV 176 2 [], aO 0 1 1, aO 19 5 6, aO 0 0 1, aO 19 5 6, aV 176 2 [], aO 0 1 1, aO 19 5 7, aO 0 0 1, aO 19 5 7, aV 176 2 [], aO 39 0 3]
def p_X5_copyFrom : List Nat := [0, 1, 2, 5, 8, 9, 10, 13, 16, 17, 18, 21, 24, 25, 28, 29, 32, 35, 36, 39, 40, 43, 46, 47, 50, 51, 54, 57, 58, 61, 62, 65, 68, 69, 72, 73, 76, 79, 80]
def h_X5_copyFrom : List Nat := [0, 0, 196, 196, 0, 0, 198, 198, 0, 0, 200, 200, 0, 201, 0, 201, 100015, 0, 202, 0, 202, 100015, 0, 203, 0, 203, 100015, 0, 204, 0, 204, 100015, 0, 205, 0, 205, 100015, 0]
def k_X6_init : List aI := [aO 0 0 1, aO 37 0 0, aO 0 0 1, aC 1 (.int 8), aO 32 0 0, aO 21 6 0, aO 0 0 1, aC 1 (.int 8), aO 32 0 0, aO 21 6 1, aO 0 0 1, aC 1 (.int 8), aO 32 0 0, aO 21 6 2, aO 0 0 1, aC 1 (.int 8), aO 32 0 0, aO 21 6 3, aO 0 0 1, aC 1 (.int 63), aO 20 6 7, aO 0 0 1, aC 1 (.int 63), aO 20 6 8, aO 39 0 3]
def p_X6_init : List Nat := [0, 1, 4, 5, 7, 9, 12, 13, 15, 17, 20, 21, 23, 25, 28, 29, 31, 33, 36, 37, 39, 42, 43, 45, 48, 49]
def h_X6_init : List Nat := [0, 253, 0, 0, 175, 254, 0, 0, 175, 256, 0, 0, 175, 258, 0, 0, 175, 260, 0, 0, 267, 0, 0, 268, 0]
def k_X6_begin : List aI := [aO 0 0 1, aC 0 (.int 0), aO 20 6 4, aO 0 0 1, aO 0 1 0, aO 20 6 5, aO 0 0 1, aO 0 2 0, aO 20 6 6, aO 0 0 1, aO 0 3 0, aO 20 6 7, aO 0 0 1, aO 0 4 0, aO 20 6 8, aO 39 0 3]
def p_X6_begin : List Nat := [0, 1, 2, 5, 6, 7, 10, 11, 12, 15, 16, 17, 20, 21, 23, 26, 27]
def h_X6_begin : List Nat := [0, 0, 262, 0, 0, 265, 0, 0, 266, 0, 0, 267, 0, 0, 268, 0]
def k_X6_add : List aI := [aO 0 0 1, aO 19 6 4, aC 1 (.int 8), aO 16 6 2, aC 0 (.int (-1)), aO 39 0 0, aO 0 0 1, aO 19 6 0, aO 0 0 1, aO 19 6 4, aO 0 1 0, aO 24 0 0, aO 0 0 1, aO 19 6 1, aO 0 0 1, aO 19 6 4, aO 0 2 0, aO 24 0 0, aO 0 0 1, aO 19 6 2, aO 0 0 1, aO 19 6 4, aO 0 3 0, aO 24 0 0, aO 0 0 1, aO 19 6 3, aO 0 0 1, aO 19 6 4, aO 0 4 0, aO 24 0 0, aO 0 0 1, aO 12 0 0, aO 19 6 4, aC 0 (.int 1), aO 4 0 0, aO 20 6 4, aO 0 0 1, aO 19 6 4, aC 0 (.int 1), aO 4 0 1, aO 39 0 0]
def p_X6_add : List Nat := [0, 1, 4, 6, 9, 10, 11, 12, 15, 16, 19, 20, 21, 22, 25, 26, 29, 30, 31, 32, 35, 36, 39, 40, 41, 42, 45, 46, 49, 51, 52, 53, 54, 57, 58, 59, 62, 63, 66, 67, 68, 69]
def h_X6_add : List Nat := [0, 262, 0, 0, 0, 0, 0, 254, 0, 262, 0, 0, 0, 256, 0, 262, 0, 0, 0, 258, 0, 262, 0, 0, 0, 260, 0, 262, 0, 0, 0, 0, 262, 0, 0, 262, 0, 262, 0, 0, 0]
def k_X6_isClear : List aI := [aO 0 1 0, aO 0 0 1, aO 19 6 5, aO 16 18 2, aO 0 1 0, aO 0 0 1, aO 19 6 7, aO 16 18 4, aO 0 2 0, aO 0 0 1, aO 19 6 6, aO 16 18 2, aO 0 2 0, aO 0 0 1, aO 19 6 8, aO 16 18 4, aC 0 (.int 1), aO 17 19 0, aC 0 (.int 0), aO 39 0 0]
def p_X6_isClear : List Nat := [0, 1, 2, 5, 8, 9, 10, 13, 16, 17, 18, 21, 24, 25, 26, 29, 32, 33, 36, 37, 38]
def h_X6_isClear : List Nat := [0, 0, 265, 0, 0, 0, 267, 0, 0, 0, 266, 0, 0, 0, 268, 0, 0, 0, 0, 0]
def k_X6_turnFrom : List aI := [aO 0 1 1, aO 19 6 5, aO 0 1 1, aO 19 6 6, aO 0 2 0, aV 64 3 [], aO 1 3 0, aO 0 1 1, aO 19 6 5, aO 0 1 1, aO 19 6 6, aO 0 2 0, aV 65 3 [], aO 1 4 0, aO 0 1 1, aO 19 6 7, aO 0 1 1, aO 19 6 8, aO 0 2 0, aV 64 3 [], aO 1 5 0, aO 0 1 1, aO 19 6 7, aO 0 1 1, aO 19 6 8, aO 0 2 0, aV 65 3 [], aO 1 6 0, aO 0 0 1, aO 0 3 0, aO 0 5 0, aV 336 2 [], aO 0 4 0, aO 0 6 0, aV 336 2 [], aO 0 3 0, aO 0 5 0, aV 335 2 [], aO 0 4 0, aO 0 6 0, aV 335 2 [], aV 60 5 [6], aC 0 (.int 0), aO 1 7 0, aO 0 7 0, aO 0 1 1, aO 19 6 4, aO 16 87 3, aO 0 0 1, aO 0 1 1, aO 19 6 0, aO 0 7 0, aO 23 0 0, aO 0 1 1, aO 19 6 1, aO 0 7 0, aO 23 0 0, aO 0 2 0, aV 64 3 [], aO 0 1 1, aO 19 6 0, aO 0 7 0, aO 23 0 0, aO 0 1 1, aO 19 6 1, aO 0 7 0, aO 23 0 0, aO 0 2 0, aV 65 3 [], aO 0 1 1, aO 19 6 2, aO 0 7 0, aO 23 0 0, aO 0 1 1, aO 19 6 3, aO 0 7 0, aO 23 0 0, aC 0 (.int 4), aO 0 2 0, aO 4 0 2, aO 4 0 0, aC 1 (.int 15), aO 4 0 3, aV 61 5 [6], aO 12 0 2, aN 7 1, aO 17 44 0, aO 39 0 3]
def p_X6_turnFrom : List Nat := [0, 1, 4, 5, 8, 9, 12, 13, 14, 17, 18, 21, 22, 25, 27, 28, 31, 32, 35, 36, 39, 41, 42, 45, 46, 49, 50, 53, 55, 56, 57, 59, 62, 64, 66, 69, 70, 72, 75, 77, 79, 82, 85, 86, 88, 90, 91, 94, 97, 98, 99, 102, 104, 105, 106, 109, 111, 112, 113, 116, 117, 120, 122, 123, 124, 127, 129, 130, 131, 134, 135, 138, 140, 141, 142, 145, 147, 148, 149, 150, 151, 152, 154, 155, 158, 159, 162, 165, 166]
def h_X6_turnFrom : List Nat := [0, 265, 0, 266, 0, 619, 0, 0, 265, 0, 266, 0, 622, 0, 0, 267, 0, 268, 0, 619, 0, 0, 267, 0, 268, 0, 622, 0, 0, 0, 0, 625, 0, 0, 625, 0, 0, 628, 0, 0, 628, 631, 0, 0, 0, 0, 262, 0, 0, 0, 254, 0, 0, 0, 256, 0, 0, 0, 619, 0, 254, 0, 0, 0, 256, 0, 0, 0, 622, 0, 258, 0, 0, 0, 260, 0, 0, 0, 0, 0, 0, 0, 0, 635, 0, 0, 0, 0]
def k_X6_turnedX : List aI := [aO 0 2 0, aT 12 0 [2, 4, 8], aO 0 0 0, aO 39 0 0, aC 1 (.int 63), aO 0 1 0, aO 4 0 1, aO 39 0 0, aC 1 (.int 63), aO 0 0 0, aO 4 0 1, aO 39 0 0, aO 0 1 0, aO 39 0 0]
def p_X6_turnedX : List Nat := [0, 1, 28, 29, 30, 32, 33, 34, 35, 37, 38, 39, 40, 41, 42]
def h_X6_turnedX : List Nat := [0, 0, 0, 0, 0, 0, 0, 0, 0, 0, 0, 0, 0, 0]
def k_X6_turnedY : List aI := [aO 0 2 0, aT 10 0 [2, 4, 6], aO 0 1 0, aO 39 0 0, aO 0 0 0, aO 39 0 0, aC 1 (.int 63), aO 0 1 0, aO 4 0 1, aO 39 0 0, aC 1 (.int 63), aO 0 0 0, aO 4 0 1, aO 39 0 0]
def p_X6_turnedY : List Nat := [0, 1, 28, 29, 30, 31, 32, 34, 35, 36, 37, 39, 40, 41, 42]
def h_X6_turnedY : List Nat := [0, 0, 0, 0, 0, 0, 0, 0, 0, 0, 0, 0, 0, 0]
def k_X6_copyFrom : List aI := [aO 0 0 1, aO 0 1 1, aO 19 6 5, aO 0 1 1, aO 19 6 6, aO 0 1 1, aO 19 6 7, aO 0 1 1, aO 19 6 8, aV 60 5 [6], aO 0 0 1, aO 0 1 1, aO 19 6 4, aO 20 6 4, aO 0 1 1, aO 19 6 0, aO 0 0 1, aO 19 6 0, aV 176 2 [], aO 0 1 1, aO 19 6 1, aO 0 0 1, aO 19 6 1, aV 176 2 [], aO 0 1 1, aO 19 6 2, aO 0 0 1, aO 19 6 2, aV 176 2 [], aO 0 1 1, aO 19 6 3, aO 0 0 1, aO 19 6 3, aV 176 2 [], aO 39 0 3]
def p_X6_copyFrom : List Nat := [0, 1, 2, 5, 6, 9, 10, 13, 14, 17, 20, 21, 22, 25, 28, 29, 32, 33, 36, 39, 40, 43, 44, 47, 50, 51, 54, 55, 58, 61, 62, 65, 66, 69, 72, 73]
def h_X6_copyFrom : List Nat := [0, 0, 265, 0, 266, 0, 267, 0, 268, 631, 0, 0, 262, 262, 0, 254, 0, 254, 100013, 0, 256, 0, 256, 100013, 0, 258, 0, 258, 100013, 0, 260, 0, 260, 100013, 0]
def k_X7_init : List aI := [aO 0 0 1, aO 37 0 0, aO 0 0 1, aC 0 (.int 1), aO 20 7 1, aO 0 0 1, aC 1 (.int 10), aO 20 7 2, aO 0 0 1, aC 1 (.int 60), aO 32 4 0, aO 21 7 8, aO 0 0 1, aC 1 (.int 20), aO 32 5 0, aO 21 7 9, aO 0 0 1, aC 1 (.int 16), aO 32 6 0, aO 21 7 10, aO 0 0 1, aC 1 (.int 10), aO 32 7 0, aO 21 7 11, aO 0 0 1, aO 31 5 0, aO 12 0 0, aV 42 1 [100], aO 21 7 12, aO 0 0 1, aO 31 8 0, aO 12 0 0, aC 2 (.int 200), aC 1 (.int 6), aV 84 3 [100], aO 21 7 13, aO 0 0 1, aO 31 8 0, aO 12 0 0, aC 2 (.int 200), aC 1 (.int 7), aV 84 3 [100], aO 21 7 14, aC 0 (.int 0), aO 1 1 0, aO 0 1 0, aC 1 (.int 60), aO 16 57 3, aO 0 0 1, aO 19 7 8, aO 0 1 0, aO 31 4 0, aO 12 0 0, aV 29 1 [100], aO 30 0 0, aN 1 1, aO 17 45 0, aC 0 (.int 0), aO 1 1 0, aO 0 1 0, aC 1 (.int 20), aO 16 71 3, aO 0 0 1, aO 19 7 9, aO 0 1 0, aO 31 3 0, aO 12 0 0, aV 27 1 [100], aO 30 0 0, aN 1 1, aO 17 59 0, aC 0 (.int 0), aO 1 1 0, aO 0 1 0, aC 1 (.int 16), aO 16 85 3, aO 0 0 1, aO 19 7 10, aO 0 1 0, aO 31 0 0, aO 12 0 0, aV 0 1 [100], aO 30 0 0, aN 1 1, aO 17 73 0, aC 0 (.int 0), aO 1 1 0, aO 0 1 0, aC 1 (.int 10), aO 16 99 3, aO 0 0 1, aO 19 7 11, aO 0 1 0, aO 31 5 0, aO 12 0 0, aV 42 1 [100], aO 30 0 0, aN 1 1, aO 17 87 0, aO 39 0 3]
def p_X7_init : List Nat := [0, 1, 4, 5, 6, 9, 10, 12, 15, 16, 18, 21, 24, 25, 27, 30, 33, 34, 36, 39, 42, 43, 45, 48, 51, 52, 55, 56, 59, 62, 63, 66, 67, 70, 72, 75, 78, 79, 82, 83, 86, 88, 91, 94, 95, 96, 97, 99, 102, 103, 106, 107, 110, 111, 114, 115, 118, 121, 122, 123, 124, 126, 129, 130, 133, 134, 137, 138, 141, 142, 145, 148, 149, 150, 151, 153, 156, 157, 160, 161, 164, 165, 168, 169, 172, 175, 176, 177, 178, 180, 183, 184, 187, 188, 191, 192, 195, 196, 199, 202, 203]
def h_X7_init : List Nat := [0, 181, 0, 0, 371, 0, 0, 373, 0, 0, 182, 385, 0, 0, 184, 387, 0, 0, 186, 389, 0, 0, 188, 391, 0, 188, 0, 100001, 393, 0, 223, 0, 0, 0, 225, 394, 0, 223, 0, 0, 0, 225, 396, 0, 0, 0, 0, 0, 0, 385, 0, 182, 0, 100002, 0, 0, 0, 0, 0, 0, 0, 0, 0, 387, 0, 184, 0, 100004, 0, 0, 0, 0, 0, 0, 0, 0, 0, 389, 0, 186, 0, 100006, 0, 0, 0, 0, 0, 0, 0, 0, 0, 391, 0, 188, 0, 100001, 0, 0, 0, 0]
def k_X7_textOn : List aI := [aC 0 (.int (-1)), aO 1 2 0, aC 0 (.int 0), aO 1 3 0, aO 0 3 0, aO 0 0 1, aO 19 7 7, aO 16 33 3, aO 0 0 1, aO 19 7 11, aO 0 3 0, aO 29 0 0, aO 19 5 0, aO 0 1 0, aO 16 31 4, aO 0 2 0, aC 0 (.int (-1)), aO 16 29 0, aO 0 0 1, aO 19 7 11, aO 0 3 0, aO 29 0 0, aO 19 5 0, aO 0 0 1, aO 19 7 11, aO 0 2 0, aO 29 0 0, aO 19 5 0, aO 16 31 2, aO 0 3 0, aO 1 2 0, aN 3 1, aO 17 4 0, aO 0 2 0, aC 0 (.int (-1)), aO 16 39 1, aO 0 0 1, aO 19 7 12, aO 17 43 0, aO 0 0 1, aO 19 7 11, aO 0 2 0, aO 29 0 0, aO 39 0 1]
def p_X7_textOn : List Nat := [0, 1, 2, 3, 4, 5, 6, 9, 12, 13, 16, 17, 18, 21, 22, 25, 26, 27, 30, 31, 34, 35, 36, 39, 40, 43, 44, 45, 48, 51, 52, 53, 56, 59, 60, 61, 64, 65, 68, 71, 72, 75, 76, 77, 78]
def h_X7_textOn : List Nat := [0, 0, 0, 0, 0, 0, 383, 0, 0, 391, 0, 0, 195, 0, 0, 0, 0, 0, 0, 391, 0, 0, 195, 0, 391, 0, 0, 195, 0, 0, 0, 0, 0, 0, 0, 0, 0, 393, 0, 0, 391, 0, 0, 0]
def k_X7_isPrint : List aI := [aO 0 1 0, aO 15 8 2, aO 0 1 0, aO 0 0 1, aO 19 7 4, aO 16 8 3, aC 0 (.int 1), aO 17 9 0, aC 0 (.int 0), aO 39 0 0]
def p_X7_isPrint : List Nat := [0, 1, 4, 5, 6, 9, 12, 13, 16, 17, 18]
def h_X7_isPrint : List Nat := [0, 0, 0, 0, 377, 0, 0, 0, 0, 0]
def k_X7_isMark : List aI := [aO 0 1 0, aO 15 8 2, aO 0 1 0, aO 0 0 1, aO 19 7 5, aO 16 8 3, aC 0 (.int 1), aO 17 9 0, aC 0 (.int 0), aO 39 0 0]
def p_X7_isMark : List Nat := [0, 1, 4, 5, 6, 9, 12, 13, 16, 17, 18]
def h_X7_isMark : List Nat := [0, 0, 0, 0, 379, 0, 0, 0, 0, 0]
def k_X7_isCard : List aI := [aO 0 1 0, aO 15 8 2, aO 0 1 0, aO 0 0 1, aO 19 7 6, aO 16 8 3, aC 0 (.int 1), aO 17 9 0, aC 0 (.int 0), aO 39 0 0]
def p_X7_isCard : List Nat := [0, 1, 4, 5, 6, 9, 12, 13, 16, 17, 18]
def h_X7_isCard : List Nat := [0, 0, 0, 0, 381, 0, 0, 0, 0, 0]
def k_X7_isFinger : List aI := [aO 0 0 0, aO 15 7 2, aO 0 0 0, aC 1 (.int 10), aO 16 7 3, aC 0 (.int 1), aO 17 8 0, aC 0 (.int 0), aO 39 0 0]
def p_X7_isFinger : List Nat := [0, 1, 4, 5, 7, 10, 11, 14, 15, 16]
def h_X7_isFinger : List Nat := [0, 0, 0, 0, 0, 0, 0, 0, 0]
def k_X7_isInFile : List aI := [aO 0 0 1, aO 0 1 0, aV 71 2 [7], aO 15 13 0, aO 0 0 1, aO 19 7 10, aO 0 1 0, aO 29 0 0, aO 19 0 2, aC 0 (.int (-1)), aO 16 13 1, aC 0 (.int 1), aO 17 14 0, aC 0 (.int 0), aO 39 0 0]
def p_X7_isInFile : List Nat := [0, 1, 2, 5, 8, 9, 12, 13, 14, 17, 18, 21, 22, 25, 26, 27]
def h_X7_isInFile : List Nat := [0, 0, 584, 0, 0, 389, 0, 0, 341, 0, 0, 0, 0, 0, 0]
def k_X7_printAt : List aI := [aO 0 0 1, aO 0 1 0, aV 71 2 [7], aO 15 15 0, aO 0 2 0, aV 72 1 [], aO 15 15 0, aO 0 0 1, aO 19 7 10, aO 0 1 0, aO 29 0 0, aO 19 0 3, aO 0 2 0, aO 23 0 0, aO 17 16 0, aC 0 (.int (-1)), aO 39 0 0]
def p_X7_printAt : List Nat := [0, 1, 2, 5, 8, 9, 12, 15, 16, 19, 20, 21, 24, 25, 26, 29, 30, 31]
def h_X7_printAt : List Nat := [0, 0, 584, 0, 0, 588, 0, 0, 389, 0, 0, 344, 0, 0, 0, 0, 0]
def k_X7_shownClass : List aI := [aO 0 0 1, aO 0 1 0, aO 0 2 0, aV 74 3 [7], aO 1 3 0, aO 0 0 1, aO 0 3 0, aV 69 2 [7], aO 15 15 0, aO 0 0 1, aO 19 7 8, aO 0 3 0, aO 29 0 0, aO 19 4 4, aO 17 16 0, aC 0 (.int (-1)), aO 39 0 0]
def p_X7_shownClass : List Nat := [0, 1, 2, 3, 6, 7, 8, 9, 12, 15, 16, 19, 20, 21, 24, 27, 28, 29]
def h_X7_shownClass : List Nat := [0, 0, 0, 1121, 0, 0, 0, 1126, 0, 0, 385, 0, 0, 297, 0, 0, 0]
def k_X7_countInFile : List aI := [aC 0 (.int 0), aO 1 1 0, aC 0 (.int 0), aO 1 2 0, aO 0 2 0, aO 0 0 1, aO 19 7 6, aO 16 20 3, aO 0 1 0, aO 0 0 1, aO 0 2 0, aV 73 2 [7], aO 15 15 0, aC 0 (.int 1), aO 17 16 0, aC 0 (.int 0), aO 4 0 0, aO 1 1 0, aN 2 1, aO 17 4 0, aO 0 1 0, aO 39 0 0]
def p_X7_countInFile : List Nat := [0, 1, 2, 3, 4, 5, 6, 9, 12, 13, 14, 15, 18, 21, 22, 25, 26, 27, 28, 31, 34, 35, 36]
def h_X7_countInFile : List Nat := [0, 0, 0, 0, 0, 0, 381, 0, 0, 0, 0, 780, 0, 0, 0, 0, 0, 0, 0, 0, 0, 0]
def k_X7_countPrints : List aI := [aC 0 (.int 0), aO 1 2 0, aC 0 (.int 0), aO 1 3 0, aO 0 3 0, aO 0 0 1, aO 19 7 6, aO 16 26 3, aO 0 2 0, aO 0 0 1, aO 0 3 0, aV 73 2 [7], aO 15 21 0, aO 0 0 1, aO 0 3 0, aO 0 1 0, aV 74 3 [7], aC 0 (.int (-1)), aO 16 21 0, aC 0 (.int 1), aO 17 22 0, aC 0 (.int 0), aO 4 0 0, aO 1 2 0, aN 3 1, aO 17 4 0, aO 0 2 0, aO 39 0 0]
def p_X7_countPrints : List Nat := [0, 1, 2, 3, 4, 5, 6, 9, 12, 13, 14, 15, 18, 21, 22, 23, 24, 27, 28, 31, 32, 35, 36, 37, 38, 41, 44, 45, 46]
def h_X7_countPrints : List Nat := [0, 0, 0, 0, 0, 0, 381, 0, 0, 0, 0, 780, 0, 0, 0, 0, 1121, 0, 0, 0, 0, 0, 0, 0, 0, 0, 0, 0]
def k_X7_countClass : List aI := [aC 0 (.int 0), aO 1 3 0, aC 0 (.int 0), aO 1 4 0, aO 0 4 0, aO 0 0 1, aO 19 7 6, aO 16 26 3, aO 0 3 0, aO 0 0 1, aO 0 4 0, aV 73 2 [7], aO 15 21 0, aO 0 0 1, aO 0 4 0, aO 0 1 0, aV 75 3 [7], aO 0 2 0, aO 16 21 1, aC 0 (.int 1), aO 17 22 0, aC 0 (.int 0), aO 4 0 0, aO 1 3 0, aN 4 1, aO 17 4 0, aO 0 3 0, aO 39 0 0]
def p_X7_countClass : List Nat := [0, 1, 2, 3, 5, 7, 8, 11, 14, 15, 16, 18, 21, 24, 25, 27, 28, 31, 32, 35, 36, 39, 40, 41, 42, 45, 48, 49, 50]
def h_X7_countClass : List Nat := [0, 0, 0, 0, 0, 0, 381, 0, 0, 0, 0, 780, 0, 0, 0, 0, 1122, 0, 0, 0, 0, 0, 0, 0, 0, 0, 0, 0]
def k_X7_isLeft : List aI := [aO 0 0 1, aO 0 2 0, aV 73 2 [7], aO 15 24 0, aO 0 0 1, aO 0 2 0, aO 0 3 0, aV 74 3 [7], aC 0 (.int (-1)), aO 16 24 0, aO 0 0 1, aO 19 7 10, aO 0 2 0, aO 29 0 0, aO 19 0 5, aO 0 3 0, aO 23 0 0, aO 0 1 0, aO 4 0 7, aC 0 (.int 1), aO 4 0 3, aO 15 24 1, aC 0 (.int 1), aO 17 25 0, aC 0 (.int 0), aO 39 0 0]
def p_X7_isLeft : List Nat := [0, 1, 2, 5, 8, 9, 10, 11, 14, 15, 18, 19, 22, 23, 24, 27, 28, 29, 30, 31, 32, 33, 36, 37, 40, 41, 42]
def h_X7_isLeft : List Nat := [0, 0, 780, 0, 0, 0, 0, 1121, 0, 0, 0, 389, 0, 0, 350, 0, 0, 0, 0, 0, 0, 0, 0, 0, 0, 0]
def k_X7_classOf : List aI := [aO 0 0 1, aO 0 1 0, aO 0 2 0, aV 74 3 [7], aC 0 (.int (-1)), aO 16 8 0, aO 0 2 0, aO 17 13 0, aO 0 2 0, aC 0 (.int 5), aO 4 0 0, aC 1 (.int 10), aO 5 0 1, aO 1 4 0, aO 0 0 1, aO 0 1 0, aO 0 4 0, aV 75 3 [7], aO 1 5 0, aO 0 5 0, aC 0 (.int (-1)), aO 16 24 1, aC 1 (.int 7), aO 39 0 0, aO 0 3 0, aO 0 4 0, aO 4 0 7, aC 0 (.int 1), aO 4 0 3, aC 0 (.int 1), aO 16 39 1, aO 0 0 1, aO 19 7 10, aO 0 1 0, aO 29 0 0, aO 19 0 4, aO 0 4 0, aO 23 0 0, aO 17 40 0, aO 0 5 0, aO 39 0 0]
def p_X7_classOf : List Nat := [0, 1, 2, 3, 6, 7, 10, 11, 14, 15, 16, 17, 19, 20, 22, 23, 24, 26, 29, 31, 33, 34, 37, 39, 40, 41, 43, 44, 45, 46, 47, 50, 51, 54, 55, 56, 59, 61, 62, 65, 67, 68]
def h_X7_classOf : List Nat := [0, 0, 0, 1121, 0, 0, 0, 0, 0, 0, 0, 0, 0, 0, 0, 0, 0, 1122, 0, 0, 0, 0, 0, 0, 0, 0, 0, 0, 0, 0, 0, 0, 389, 0, 0, 347, 0, 0, 0, 0, 0]
def k_X7_readingOf : List aI := [aC 0 (.int 0), aO 1 3 0, aC 0 (.int 0), aO 1 4 0, aO 0 4 0, aC 1 (.int 10), aO 16 19 3, aO 0 3 0, aC 0 (.int 3), aO 4 0 6, aO 0 0 1, aO 0 1 0, aO 0 4 0, aO 0 2 0, aV 80 4 [7], aO 4 0 4, aO 1 3 0, aN 4 1, aO 17 4 0, aO 0 3 0, aO 39 0 0]
def p_X7_readingOf : List Nat := [0, 1, 2, 3, 5, 7, 9, 12, 13, 14, 15, 16, 17, 19, 20, 23, 24, 25, 28, 31, 32, 33]
def h_X7_readingOf : List Nat := [0, 0, 0, 0, 0, 0, 0, 0, 0, 0, 0, 0, 0, 0, 1138, 0, 0, 0, 0, 0, 0]
def k_X7_fillReadings : List aI := [aO 0 0 1, aO 19 7 10, aO 0 1 0, aO 29 0 0, aV 4 1 [0], aO 1 3 0, aC 0 (.int 0), aO 1 4 0, aC 0 (.int 0), aO 1 5 0, aO 0 5 0, aO 0 2 1, aO 22 0 0, aO 16 35 3, aO 0 2 1, aO 0 5 0, aO 0 0 1, aO 0 1 0, aO 0 4 0, aV 81 3 [7], aO 24 0 0, aO 0 4 0, aO 0 3 0, aO 4 0 1, aO 0 3 0, aO 4 0 3, aO 1 4 0, aO 0 4 0, aO 15 33 1, aO 0 5 0, aC 0 (.int 1), aO 4 0 0, aO 39 0 0, aN 5 1, aO 17 10 0, aO 0 2 1, aO 22 0 0, aO 39 0 0]
def p_X7_fillReadings : List Nat := [0, 1, 4, 5, 6, 9, 10, 11, 13, 14, 16, 18, 19, 20, 23, 24, 26, 27, 28, 30, 33, 34, 36, 37, 38, 39, 40, 42, 44, 47, 49, 50, 51, 52, 55, 58, 59, 60, 61]
def h_X7_fillReadings : List Nat := [0, 389, 0, 0, 1150, 0, 0, 0, 0, 0, 0, 0, 0, 0, 0, 0, 0, 0, 0, 1154, 0, 0, 0, 0, 0, 0, 0, 0, 0, 0, 0, 0, 0, 0, 0, 0, 0, 0]
def k_X7_copyFrom : List aI := [aO 0 0 1, aO 0 1 1, aO 19 7 0, aO 20 7 0, aO 0 0 1, aO 0 1 1, aO 19 7 1, aO 20 7 1, aO 0 0 1, aO 0 1 1, aO 19 7 2, aO 20 7 2, aO 0 0 1, aO 0 1 1, aO 19 7 3, aO 20 7 3, aO 0 0 1, aO 0 1 1, aO 19 7 4, aO 20 7 4, aO 0 0 1, aO 0 1 1, aO 19 7 5, aO 20 7 5, aO 0 0 1, aO 0 1 1, aO 19 7 6, aO 20 7 6, aO 0 0 1, aO 0 1 1, aO 19 7 7, aO 20 7 7, aC 0 (.int 0), aO 1 2 0, aO 0 2 0, aO 0 0 1, aO 19 7 4, aO 16 49 3, aO 0 0 1, aO 19 7 8, aO 0 2 0, aO 29 0 0, aO 0 1 1, aO 19 7 8, aO 0 2 0, aO 29 0 0, aV 41 2 [4], aN 2 1, aO 17 34 0, aC 0 (.int 0), aO 1 2 0, aO 0 2 0, aO 0 0 1, aO 19 7 5, aO 16 66 3, aO 0 0 1, aO 19 7 9, aO 0 2 0, aO 29 0 0, aO 0 1 1, aO 19 7 9, aO 0 2 0, aO 29 0 0, aV 28 2 [3], aN 2 1, aO 17 51 0, aC 0 (.int 0), aO 1 2 0, aO 0 2 0, aO 0 0 1, aO 19 7 6, aO 16 83 3, aO 0 0 1, aO 19 7 10, aO 0 2 0, aO 29 0 0, aO 0 1 1, aO 19 7 10, aO 0 2 0, aO 29 0 0, aV 7 2 [0], aN 2 1, aO 17 68 0, aC 0 (.int 0), aO 1 2 0, aO 0 2 0, aO 0 0 1, aO 19 7 7, aO 16 100 3, aO 0 0 1, aO 19 7 11, aO 0 2 0, aO 29 0 0, aO 0 1 1, aO 19 7 11, aO 0 2 0, aO 29 0 0, aV 58 2 [5], aN 2 1, aO 17 85 0, aO 0 0 1, aO 19 7 13, aO 0 1 1, aO 19 7 13, aV 91 2 [8], aO 0 0 1, aO 19 7 14, aO 0 1 1, aO 19 7 14, aV 91 2 [8], aO 39 0 3]
def p_X7_copyFrom : List Nat := [0, 1, 2, 5, 8, 9, 10, 13, 16, 17, 18, 21, 24, 25, 26, 29, 32, 33, 34, 37, 40, 41, 42, 45, 48, 49, 50, 53, 56, 57, 58, 61, 64, 65, 66, 67, 68, 71, 74, 75, 78, 79, 80, 81, 84, 85, 86, 89, 92, 95, 96, 97, 98, 99, 102, 105, 106, 109, 110, 111, 112, 115, 116, 117, 120, 123, 126, 127, 128, 129, 130, 133, 136, 137, 140, 141, 142, 143, 146, 147, 148, 151, 154, 157, 158, 159, 160, 161, 164, 167, 168, 171, 172, 173, 174, 177, 178, 179, 182, 185, 188, 189, 192, 193, 196, 199, 200, 203, 204, 207, 210, 211]
def h_X7_copyFrom : List Nat := [0, 0, 370, 370, 0, 0, 371, 371, 0, 0, 373, 373, 0, 0, 375, 375, 0, 0, 377, 377, 0, 0, 379, 379, 0, 0, 381, 381, 0, 0, 383, 383, 0, 0, 0, 0, 377, 0, 0, 385, 0, 0, 0, 385, 0, 0, 728, 0, 0, 0, 0, 0, 0, 379, 0, 0, 387, 0, 0, 0, 387, 0, 0, 743, 0, 0, 0, 0, 0, 0, 381, 0, 0, 389, 0, 0, 0, 389, 0, 0, 748, 0, 0, 0, 0, 0, 0, 383, 0, 0, 391, 0, 0, 0, 391, 0, 0, 753, 0, 0, 0, 394, 0, 394, 758, 0, 396, 0, 396, 758, 0]
def k_X8_init : List aI := [aO 0 0 1, aO 37 0 0, aO 0 0 1, aO 0 1 0, aO 15 7 5, aO 0 1 0, aO 17 8 0, aC 0 (.int 0), aO 21 8 0, aO 0 0 1, aO 0 2 0, aO 15 14 5, aO 0 2 0, aO 17 15 0, aC 0 (.int 0), aO 21 8 1, aO 0 0 1, aO 0 0 1, aO 19 8 0, aO 0 0 1, aO 19 8 1, aO 4 0 2, aO 32 0 0, aO 21 8 2, aO 39 0 3]
def p_X8_init : List Nat := [0, 1, 4, 5, 6, 9, 10, 13, 14, 17, 18, 19, 22, 23, 26, 27, 30, 31, 32, 35, 36, 39, 40, 42, 45, 46]
def h_X8_init : List Nat := [0, 228, 0, 0, 0, 0, 0, 0, 229, 0, 0, 0, 0, 0, 0, 230, 0, 0, 229, 0, 230, 0, 175, 231, 0]
def k_X8_isFull : List aI := [aO 0 0 1, aO 19 8 3, aO 0 0 1, aO 19 8 0, aO 16 7 2, aC 0 (.int 1), aO 17 8 0, aC 0 (.int 0), aO 39 0 0]
def p_X8_isFull : List Nat := [0, 1, 4, 5, 8, 11, 12, 15, 16, 17]
def h_X8_isFull : List Nat := [0, 232, 0, 229, 0, 0, 0, 0, 0]
def k_X8_open : List aI := [aO 0 0 1, aV 85 1 [8], aO 15 5 0, aC 0 (.int (-1)), aO 39 0 0, aO 0 0 1, aO 12 0 0, aO 19 8 3, aC 0 (.int 1), aO 4 0 0, aO 20 8 3, aO 0 0 1, aO 19 8 3, aC 0 (.int 1), aO 4 0 1, aO 39 0 0]
def p_X8_open : List Nat := [0, 1, 4, 7, 8, 9, 10, 11, 14, 15, 16, 19, 20, 23, 24, 25, 26]
def h_X8_open : List Nat := [0, 1354, 0, 0, 0, 0, 0, 232, 0, 0, 232, 0, 232, 0, 0, 0]
def k_X8_hasCell : List aI := [aO 0 1 0, aO 15 14 2, aO 0 1 0, aO 0 0 1, aO 19 8 3, aO 16 14 3, aO 0 2 0, aO 15 14 2, aO 0 2 0, aO 0 0 1, aO 19 8 1, aO 16 14 3, aC 0 (.int 1), aO 17 15 0, aC 0 (.int 0), aO 39 0 0]
def p_X8_hasCell : List Nat := [0, 1, 4, 5, 6, 9, 12, 13, 16, 17, 18, 21, 24, 25, 28, 29, 30]
def h_X8_hasCell : List Nat := [0, 0, 0, 0, 232, 0, 0, 0, 0, 0, 230, 0, 0, 0, 0, 0]
def k_X8_at : List aI := [aO 0 0 1, aO 0 1 0, aO 0 2 0, aV 87 3 [8], aO 15 15 0, aO 0 0 1, aO 19 8 2, aO 0 1 0, aO 0 0 1, aO 19 8 1, aO 4 0 2, aO 0 2 0, aO 4 0 0, aO 23 0 0, aO 17 16 0, aC 0 (.int (-1)), aO 39 0 0]
def p_X8_at : List Nat := [0, 1, 2, 3, 6, 9, 10, 13, 14, 15, 18, 19, 20, 21, 22, 25, 26, 27]
def h_X8_at : List Nat := [0, 0, 0, 716, 0, 0, 231, 0, 0, 230, 0, 0, 0, 0, 0, 0, 0]
def k_X8_put : List aI := [aO 0 0 1, aO 0 1 0, aO 0 2 0, aV 87 3 [8], aO 15 15 0, aO 0 0 1, aO 19 8 2, aO 0 1 0, aO 0 0 1, aO 19 8 1, aO 4 0 2, aO 0 2 0, aO 4 0 0, aO 0 3 0, aO 24 0 0, aO 39 0 3]
def p_X8_put : List Nat := [0, 1, 2, 3, 6, 9, 10, 13, 14, 15, 18, 19, 20, 21, 22, 23, 24]
def h_X8_put : List Nat := [0, 0, 0, 716, 0, 0, 231, 0, 0, 230, 0, 0, 0, 0, 0, 0]
def k_X8_countOf : List aI := [aC 0 (.int 0), aO 1 3 0, aC 0 (.int 0), aO 1 4 0, aO 0 4 0, aO 0 0 1, aO 19 8 3, aO 16 17 3, aO 0 0 1, aO 0 4 0, aO 0 1 0, aV 88 3 [8], aO 0 2 0, aO 16 15 1, aN 3 1, aN 4 1, aO 17 4 0, aO 0 3 0, aO 39 0 0]
def p_X8_countOf : List Nat := [0, 1, 2, 3, 5, 7, 8, 11, 14, 15, 17, 18, 21, 22, 25, 28, 31, 34, 35, 36]
def h_X8_countOf : List Nat := [0, 0, 0, 0, 0, 0, 232, 0, 0, 0, 0, 1484, 0, 0, 0, 0, 0, 0, 0]
def k_X8_copyFrom : List aI := [aO 0 0 1, aO 0 1 1, aO 19 8 3, aO 0 0 1, aO 19 8 0, aV 336 2 [], aO 20 8 3, aO 0 1 1, aO 19 8 2, aO 0 0 1, aO 19 8 2, aV 176 2 [], aO 39 0 3]
def p_X8_copyFrom : List Nat := [0, 1, 2, 5, 6, 9, 12, 15, 16, 19, 20, 23, 26, 27]
def h_X8_copyFrom : List Nat := [0, 0, 232, 0, 229, 762, 232, 0, 231, 0, 231, 100016, 0]
def k_X9_init : List aI := [aO 0 0 1, aO 37 0 0, aO 0 0 1, aC 2 (.int 400), aO 32 0 0, aO 21 9 0, aO 0 0 1, aC 0 (.int (-1)), aO 20 9 2, aO 0 0 1, aC 2 (.int 400), aO 32 0 0, aO 21 9 3, aO 0 0 1, aC 2 (.int 400), aO 32 0 0, aO 21 9 4, aO 0 0 1, aC 2 (.int 400), aO 32 0 0, aO 21 9 5, aO 39 0 3]
def p_X9_init : List Nat := [0, 1, 4, 5, 8, 10, 13, 14, 15, 18, 19, 22, 24, 27, 28, 31, 33, 36, 37, 40, 42, 45, 46]
def h_X9_init : List Nat := [0, 144, 0, 0, 175, 145, 0, 0, 150, 0, 0, 175, 153, 0, 0, 175, 154, 0, 0, 175, 155, 0]
def k_X9_hasRoom : List aI := [aO 0 0 1, aO 19 9 1, aC 1 (.int 20), aO 4 0 0, aO 0 0 1, aO 19 9 0, aO 22 0 0, aO 16 10 4, aC 0 (.int 1), aO 17 11 0, aC 0 (.int 0), aO 39 0 0]
def p_X9_hasRoom : List Nat := [0, 1, 4, 6, 7, 8, 11, 12, 15, 16, 19, 20, 21]
def h_X9_hasRoom : List Nat := [0, 147, 0, 0, 0, 145, 0, 0, 0, 0, 0, 0]
def k_X9_append : List aI := [aC 1 (.int 24), aO 1 2 0, aO 0 2 0, aO 15 28 2, aO 0 0 1, aO 19 9 1, aO 0 0 1, aO 19 9 0, aO 22 0 0, aO 16 28 3, aO 0 0 1, aO 19 9 0, aO 0 0 1, aO 19 9 1, aO 0 1 0, aO 0 2 0, aO 4 0 7, aC 2 (.int 255), aO 4 0 3, aO 24 0 0, aO 0 0 1, aO 12 0 0, aO 19 9 1, aC 0 (.int 1), aO 4 0 0, aO 20 9 1, aN 2 (-8), aO 17 2 0, aO 39 0 3]
def p_X9_append : List Nat := [0, 2, 3, 4, 7, 8, 11, 12, 15, 16, 19, 20, 23, 24, 27, 28, 29, 30, 33, 34, 35, 36, 37, 40, 41, 42, 45, 48, 51, 52]
def h_X9_append : List Nat := [0, 0, 0, 0, 0, 147, 0, 145, 0, 0, 0, 145, 0, 147, 0, 0, 0, 0, 0, 0, 0, 0, 147, 0, 0, 147, 0, 0, 0]
def k_X9_failAt : List aI := [aO 0 0 1, aO 0 1 0, aO 20 9 2, aC 0 (.int 0), aO 39 0 0]
def p_X9_failAt : List Nat := [0, 1, 2, 5, 6, 7]
def h_X9_failAt : List Nat := [0, 0, 150, 0, 0]
def k_X9_fail : List aI := [aO 0 0 1, aO 0 0 1, aO 19 9 7, aO 0 0 1, aO 19 9 6, aO 16 12 3, aO 0 0 1, aO 19 9 4, aO 0 0 1, aO 19 9 7, aO 23 0 0, aO 17 14 0, aO 0 0 1, aO 19 9 1, aO 20 9 2, aC 0 (.int 0), aO 39 0 0]
def p_X9_fail : List Nat := [0, 1, 2, 5, 6, 9, 12, 13, 16, 17, 20, 21, 24, 25, 28, 31, 32, 33]
def h_X9_fail : List Nat := [0, 0, 157, 0, 156, 0, 0, 154, 0, 157, 0, 0, 0, 147, 150, 0, 0]
def k_X9_scan : List aI := [aO 0 0 1, aC 0 (.int (-1)), aO 20 9 2, aO 0 0 1, aC 0 (.int 0), aO 20 9 6, aO 0 0 1, aC 0 (.int 0), aO 20 9 7, aC 0 (.int 0), aO 1 1 0, aO 0 1 0, aO 0 0 1, aO 19 9 1, aO 16 48 3, aO 0 1 0, aC 0 (.int 1), aO 4 0 0, aO 1 2 0, aO 0 2 0, aO 0 0 1, aO 19 9 1, aO 16 35 3, aO 0 0 1, aO 19 9 0, aO 0 1 0, aO 23 0 0, aO 0 0 1, aO 19 9 0, aO 0 2 0, aO 23 0 0, aV 98 2 [], aO 15 35 0, aN 2 1, aO 17 19 0, aO 0 0 1, aO 19 9 0, aO 0 1 0, aO 23 0 0, aC 1 (.int 32), aO 16 45 0, aO 0 0 1, aO 0 1 0, aO 0 2 0, aV 101 3 [9], aO 0 2 0, aO 1 1 0, aO 17 11 0, aO 39 0 3]
def p_X9_scan : List Nat := [0, 1, 2, 5, 6, 7, 10, 11, 12, 15, 16, 17, 18, 19, 22, 25, 26, 27, 28, 29, 30, 31, 34, 37, 38, 41, 42, 43, 44, 47, 48, 49, 52, 55, 58, 61, 62, 65, 66, 67, 69, 72, 73, 74, 75, 78, 79, 80, 83, 84]
def h_X9_scan : List Nat := [0, 0, 150, 0, 0, 156, 0, 0, 157, 0, 0, 0, 0, 147, 0, 0, 0, 0, 0, 0, 0, 147, 0, 0, 145, 0, 0, 0, 145, 0, 0, 1186, 0, 0, 0, 0, 145, 0, 0, 0, 0, 0, 0, 0, 1195, 0, 0, 0, 0]
def k_X9_goesOn : List aI := [aO 0 0 0, aV 99 1 [], aO 15 6 0, aO 0 1 0, aV 99 1 [], aO 15 12 1, aO 0 0 0, aV 100 1 [], aO 15 14 0, aO 0 1 0, aV 100 1 [], aO 15 14 0, aC 0 (.int 1), aO 17 15 0, aC 0 (.int 0), aO 39 0 0]
def p_X9_goesOn : List Nat := [0, 1, 4, 7, 8, 11, 14, 15, 18, 21, 22, 25, 28, 29, 32, 33, 34]
def h_X9_goesOn : List Nat := [0, 1189, 0, 0, 1189, 0, 0, 1192, 0, 0, 1192, 0, 0, 0, 0, 0]
def k_X9_isLetter : List aI := [aO 0 0 0, aC 1 (.int 97), aO 16 8 2, aO 0 0 0, aC 1 (.int 122), aO 16 8 4, aC 0 (.int 1), aO 17 9 0, aC 0 (.int 0), aO 39 0 0]
def p_X9_isLetter : List Nat := [0, 1, 3, 6, 7, 9, 12, 13, 16, 17, 18]
def h_X9_isLetter : List Nat := [0, 0, 0, 0, 0, 0, 0, 0, 0, 0]
def k_X9_isDigit : List aI := [aO 0 0 0, aC 1 (.int 48), aO 16 8 2, aO 0 0 0, aC 1 (.int 57), aO 16 8 4, aC 0 (.int 1), aO 17 9 0, aC 0 (.int 0), aO 39 0 0]
def p_X9_isDigit : List Nat := [0, 1, 3, 6, 7, 9, 12, 13, 16, 17, 18]
def h_X9_isDigit : List Nat := [0, 0, 0, 0, 0, 0, 0, 0, 0, 0]
def k_X9_addToken : List aI := [aO 0 0 1, aO 19 9 6, aO 0 0 1, aO 19 9 3, aO 22 0 0, aO 16 7 2, aO 39 0 3, aC 1 (.int 100), aO 0 0 1, aO 19 9 0, aO 0 1 0, aO 23 0 0, aO 4 0 0, aO 1 3 0, aO 0 0 1, aO 19 9 0, aO 0 1 0, aO 23 0 0, aV 99 1 [], aO 15 26 0, aO 0 0 1, aO 0 1 0, aO 0 2 0, aV 102 3 [9], aO 1 3 0, aO 17 34 0, aO 0 0 1, aO 19 9 0, aO 0 1 0, aO 23 0 0, aV 100 1 [], aO 15 34 0, aC 1 (.int 20), aO 1 3 0, aO 0 0 1, aO 19 9 3, aO 0 0 1, aO 19 9 6, aO 0 3 0, aO 24 0 0, aO 0 0 1, aO 19 9 4, aO 0 0 1, aO 19 9 6, aO 0 1 0, aO 24 0 0, aO 0 0 1, aO 19 9 5, aO 0 0 1, aO 19 9 6, aO 0 3 0, aC 1 (.int 20), aO 16 58 1, aO 0 0 1, aO 0 1 0, aO 0 2 0, aV 104 3 [9], aO 17 59 0, aC 0 (.int (-1)), aO 24 0 0, aO 0 0 1, aO 12 0 0, aO 19 9 6, aC 0 (.int 1), aO 4 0 0, aO 20 9 6, aO 39 0 3]
def p_X9_addToken : List Nat := [0, 1, 4, 5, 8, 9, 12, 13, 15, 16, 19, 20, 21, 22, 23, 24, 27, 28, 29, 32, 35, 36, 37, 38, 41, 42, 45, 46, 49, 50, 51, 54, 57, 59, 60, 61, 64, 65, 68, 69, 70, 71, 74, 75, 78, 79, 80, 81, 84, 85, 88, 89, 91, 94, 95, 96, 97, 100, 103, 104, 105, 106, 107, 110, 111, 112, 115, 116]
def h_X9_addToken : List Nat := [0, 156, 0, 153, 0, 0, 0, 0, 0, 145, 0, 0, 0, 0, 0, 145, 0, 0, 1189, 0, 0, 0, 0, 1199, 0, 0, 0, 145, 0, 0, 1192, 0, 0, 0, 0, 153, 0, 156, 0, 0, 0, 154, 0, 156, 0, 0, 0, 155, 0, 156, 0, 0, 0, 0, 0, 0, 1256, 0, 0, 0, 0, 0, 156, 0, 0, 156, 0]
def k_X9_wordToken : List aI := [aC 0 (.int 0), aO 1 3 0, aC 0 (.int 0), aO 1 4 0, aC 0 (.int 0), aO 1 5 0, aO 0 5 0, aO 40 0 0, aV 337 1 [99], aO 16 40 3, aO 40 0 0, aO 0 5 0, aV 339 2 [99], aC 1 (.int 32), aO 16 16 0, aO 17 38 0, aO 0 5 0, aO 0 4 0, aO 4 0 1, aO 0 2 0, aO 0 1 0, aO 4 0 1, aO 16 33 1, aO 0 0 1, aO 0 1 0, aO 0 4 0, aO 0 5 0, aO 0 4 0, aO 4 0 1, aV 103 4 [9], aO 15 33 0, aO 0 3 0, aO 39 0 0, aN 3 1, aO 0 5 0, aC 0 (.int 1), aO 4 0 0, aO 1 4 0, aN 5 1, aO 17 6 0, aC 1 (.int 22), aO 39 0 0]
def p_X9_wordToken : List Nat := [0, 1, 2, 3, 5, 6, 8, 10, 12, 15, 18, 20, 22, 25, 27, 30, 33, 35, 37, 38, 39, 40, 41, 44, 45, 46, 48, 50, 52, 53, 56, 59, 60, 61, 64, 66, 67, 68, 70, 73, 76, 78, 79]
def h_X9_wordToken : List Nat := [0, 0, 0, 0, 0, 0, 0, 17, 1204, 0, 17, 0, 1214, 0, 0, 0, 0, 0, 0, 0, 0, 0, 0, 0, 0, 0, 0, 0, 0, 1252, 0, 0, 0, 0, 0, 0, 0, 0, 0, 0, 0, 0]
def k_X9_isWordAt : List aI := [aC 0 (.int 0), aO 1 4 0, aO 0 4 0, aO 0 3 0, aO 16 21 3, aO 0 0 1, aO 19 9 0, aO 0 1 0, aO 0 4 0, aO 4 0 0, aO 23 0 0, aO 40 0 0, aO 0 2 0, aO 0 4 0, aO 4 0 0, aV 339 2 [99], aO 16 19 0, aC 0 (.int 0), aO 39 0 0, aN 4 1, aO 17 2 0, aC 0 (.int 1), aO 39 0 0]
def p_X9_isWordAt : List Nat := [0, 1, 3, 5, 6, 9, 10, 13, 14, 16, 17, 18, 20, 21, 23, 24, 27, 30, 31, 32, 35, 38, 39, 40]
def h_X9_isWordAt : List Nat := [0, 0, 0, 0, 0, 0, 145, 0, 0, 0, 0, 17, 0, 0, 0, 1214, 0, 0, 0, 0, 0, 0, 0]
def k_X9_valueOf : List aI := [aO 0 2 0, aO 0 1 0, aO 4 0 1, aC 0 (.int 4), aO 16 7 5, aC 0 (.int (-1)), aO 39 0 0, aC 0 (.int 0), aO 1 3 0, aO 0 1 0, aO 1 4 0, aO 0 4 0, aO 0 2 0, aO 16 27 3, aC 1 (.int 10), aO 0 3 0, aO 4 0 2, aO 0 0 1, aO 19 9 0, aO 0 4 0, aO 23 0 0, aO 4 0 0, aC 1 (.int 48), aO 4 0 1, aO 1 3 0, aN 4 1, aO 17 11 0, aO 0 3 0, aO 39 0 0]
def p_X9_valueOf : List Nat := [0, 1, 2, 3, 4, 7, 8, 9, 10, 11, 12, 14, 16, 17, 20, 22, 23, 24, 25, 28, 30, 31, 32, 34, 35, 36, 39, 42, 43, 44]
def h_X9_valueOf : List Nat := [0, 0, 0, 0, 0, 0, 0, 0, 0, 0, 0, 0, 0, 0, 0, 0, 0, 0, 145, 0, 0, 0, 0, 0, 0, 0, 0, 0, 0]
def k_X9_token : List aI := [aO 0 0 1, aO 19 9 7, aO 0 0 1, aO 19 9 6, aO 16 11 3, aO 0 0 1, aO 19 9 3, aO 0 0 1, aO 19 9 7, aO 23 0 0, aO 17 12 0, aC 1 (.int 21), aO 39 0 0]
def p_X9_token : List Nat := [0, 1, 4, 5, 8, 11, 12, 15, 16, 19, 20, 23, 25, 26]
def h_X9_token : List Nat := [0, 157, 0, 156, 0, 0, 153, 0, 157, 0, 0, 0, 0]
def k_X9_take : List aI := [aO 0 0 1, aV 105 1 [9], aO 0 1 0, aO 16 6 0, aC 0 (.int 0), aO 39 0 0, aO 0 0 1, aO 12 0 0, aO 19 9 7, aC 0 (.int 1), aO 4 0 0, aO 20 9 7, aC 0 (.int 1), aO 39 0 0]
def p_X9_take : List Nat := [0, 1, 4, 5, 8, 9, 10, 11, 12, 15, 16, 17, 20, 21, 22]
def h_X9_take : List Nat := [0, 1272, 0, 0, 0, 0, 0, 0, 157, 0, 0, 157, 0, 0]
def k_X9_takeNumber : List aI := [aO 0 0 1, aV 105 1 [9], aC 1 (.int 20), aO 16 18 1, aO 0 0 1, aO 19 9 5, aO 0 0 1, aO 19 9 7, aO 23 0 0, aO 0 1 0, aO 16 18 2, aO 0 0 1, aO 19 9 5, aO 0 0 1, aO 19 9 7, aO 23 0 0, aO 0 2 0, aO 16 23 5, aO 0 0 1, aV 96 1 [9], aO 12 0 2, aC 0 (.int (-1)), aO 39 0 0, aO 0 0 1, aO 12 0 0, aO 19 9 7, aC 0 (.int 1), aO 4 0 0, aO 20 9 7, aO 0 0 1, aO 19 9 5, aO 0 0 1, aO 19 9 7, aC 0 (.int 1), aO 4 0 1, aO 23 0 0, aO 39 0 0]
def p_X9_takeNumber : List Nat := [0, 1, 4, 6, 9, 10, 13, 14, 17, 18, 19, 22, 23, 26, 27, 30, 31, 32, 35, 36, 39, 40, 41, 42, 43, 44, 47, 48, 49, 52, 53, 56, 57, 60, 61, 62, 63, 64]
def h_X9_takeNumber : List Nat := [0, 1272, 0, 0, 0, 155, 0, 157, 0, 0, 0, 0, 155, 0, 157, 0, 0, 0, 0, 1284, 0, 0, 0, 0, 0, 157, 0, 0, 157, 0, 155, 0, 157, 0, 0, 0, 0]
def k_X10_init : List aI := [aO 0 0 1, aO 37 0 0, aO 0 0 1, aO 31 9 0, aO 12 0 0, aV 92 1 [100], aO 21 10 0, aO 0 0 1, aO 31 7 0, aO 12 0 0, aV 67 1 [100], aO 21 10 1, aO 0 0 1, aO 31 7 0, aO 12 0 0, aV 67 1 [100], aO 21 10 2, aO 0 0 1, aO 31 2 0, aO 12 0 0, aV 14 1 [100], aO 21 10 4, aO 0 0 1, aO 31 1 0, aO 12 0 0, aV 8 1 [100], aO 21 10 5, aO 0 0 1, aO 31 4 0, aO 12 0 0, aV 29 1 [100], aO 21 10 6, aO 0 0 1, aO 31 5 0, aO 12 0 0, aV 42 1 [100], aO 21 10 7, aO 0 0 1, aC 1 (.int 16), aO 32 0 0, aO 21 10 8, aO 0 0 1, aC 1 (.int 16), aO 32 0 0, aO 21 10 9, aO 0 0 1, aC 1 (.int 6), aO 32 0 0, aO 21 10 10, aO 0 0 1, aC 1 (.int 16), aO 32 0 0, aO 21 10 11, aO 39 0 3]
def p_X10_init : List Nat := [0, 1, 4, 5, 8, 9, 12, 15, 16, 19, 20, 23, 26, 27, 30, 31, 34, 37, 38, 41, 42, 45, 48, 49, 52, 53, 56, 59, 60, 63, 64, 67, 70, 71, 74, 75, 78, 81, 82, 84, 86, 89, 90, 92, 94, 97, 98, 100, 102, 105, 106, 108, 110, 113, 114]
def h_X10_init : List Nat := [0, 136, 0, 139, 0, 100000, 499, 0, 176, 0, 178, 500, 0, 176, 0, 178, 501, 0, 429, 0, 100007, 503, 0, 481, 0, 100009, 504, 0, 495, 0, 100010, 505, 0, 497, 0, 100011, 506, 0, 0, 175, 507, 0, 0, 175, 508, 0, 0, 175, 509, 0, 0, 175, 510, 0]
def k_X10_feed : List aI := [aO 0 0 1, aO 19 10 0, aV 93 1 [9], aO 15 6 1, aC 0 (.int (-1)), aO 39 0 0, aO 0 0 1, aO 19 10 0, aO 0 1 0, aV 94 2 [9], aO 0 0 1, aO 19 10 0, aO 0 2 0, aV 94 2 [9], aO 0 0 1, aO 19 10 0, aO 0 3 0, aV 94 2 [9], aO 0 0 1, aO 19 10 0, aO 0 4 0, aV 94 2 [9], aO 0 0 1, aO 19 10 0, aO 0 5 0, aV 94 2 [9], aO 0 0 1, aO 19 10 0, aO 19 9 1, aO 39 0 0]
def p_X10_feed : List Nat := [0, 1, 4, 7, 10, 11, 12, 13, 16, 17, 20, 21, 24, 25, 28, 29, 32, 33, 36, 37, 40, 42, 45, 46, 49, 51, 54, 55, 58, 61, 62]
def h_X10_feed : List Nat := [0, 499, 540, 0, 0, 0, 0, 499, 0, 544, 0, 499, 0, 544, 0, 499, 0, 544, 0, 499, 0, 544, 0, 499, 0, 544, 0, 499, 149, 0]
def k_X10_end : List aI := [aO 0 1 0, aO 15 7 2, aO 0 1 0, aO 0 0 1, aO 19 10 0, aO 19 9 1, aO 16 9 5, aC 0 (.int 0), aO 39 0 0, aO 0 0 1, aO 19 10 0, aO 0 1 0, aO 20 9 1, aC 0 (.int 1), aO 39 0 0]
def p_X10_end : List Nat := [0, 1, 4, 5, 6, 9, 12, 15, 16, 17, 18, 21, 22, 25, 26, 27]
def h_X10_end : List Nat := [0, 0, 0, 0, 499, 149, 0, 0, 0, 0, 499, 0, 149, 0, 0]
def k_X10_fault : List aI := [aO 0 0 1, aO 19 10 0, aO 19 9 2, aO 39 0 0]
def p_X10_fault : List Nat := [0, 1, 4, 7, 8]
def h_X10_fault : List Nat := [0, 499, 152, 0]
def k_X10_print : List aI := [aO 0 0 1, aO 19 10 6, aO 0 0 1, aO 19 10 0, aV 30 2 [4], aO 1 1 0, aO 0 0 1, aO 19 10 0, aC 0 (.int 0), aO 20 9 1, aO 0 1 0, aO 15 17 1, aO 38 0 0, aO 99 0 0, aO 99 0 0, aO 99 0 0, aO 99 0 0, aO 0 0 1, aO 19 10 1, aO 19 7 4, aC 1 (.int 60), aO 16 27 2, aO 38 1 0, aO 99 0 0, aO 99 0 0, aO 99 0 0, aO 99 0 0, aO 0 0 1, aO 19 10 6, aV 32 1 [4], aO 0 0 1, aO 19 10 1, aO 19 7 8, aO 0 0 1, aO 19 10 1, aO 19 7 4, aO 29 0 0, aO 0 0 1, aO 19 10 6, aV 41 2 [4], aO 0 0 1, aO 19 10 1, aO 12 0 0, aO 19 7 4, aC 0 (.int 1), aO 4 0 0, aO 20 7 4, aO 0 0 1, aO 19 10 1, aO 19 7 4, aC 0 (.int 1), aO 4 0 1, aO 39 0 0]
def p_X10_print : List Nat := [0, 1, 4, 5, 8, 11, 12, 13, 16, 17, 20, 21, 24, 27, 28, 30, 33, 34, 35, 38, 41, 43, 46, 49, 50, 52, 55, 56, 57, 60, 63, 64, 67, 70, 71, 74, 77, 78, 79, 82, 85, 86, 89, 90, 93, 94, 95, 98, 99, 102, 105, 106, 107, 108]
def h_X10_print : List Nat := [0, 505, 0, 499, 793, 0, 0, 499, 0, 149, 0, 0, 0, 0, 0, 0, 0, 0, 500, 378, 0, 0, 1, 0, 0, 0, 0, 0, 505, 889, 0, 500, 386, 0, 500, 378, 0, 0, 505, 929, 0, 500, 0, 378, 0, 0, 378, 0, 500, 378, 0, 0, 0]
def k_X10_field : List aI := [aO 0 0 1, aO 0 1 0, aV 169 2 [10], aO 0 2 0, aO 15 8 2, aO 0 2 0, aC 1 (.int 64), aO 16 13 2, aO 38 2 0, aO 99 0 0, aO 99 0 0, aO 99 0 0, aO 99 0 0, aO 0 0 1, aO 19 10 1, aO 19 7 8, aO 0 1 0, aO 29 0 0, aO 19 4 0, aO 0 2 0, aO 23 0 0, aO 39 0 0]
def p_X10_field : List Nat := [0, 1, 2, 5, 6, 9, 10, 12, 15, 18, 19, 21, 24, 25, 26, 29, 32, 33, 34, 37, 38, 39, 40]
def h_X10_field : List Nat := [0, 0, 938, 0, 0, 0, 0, 0, 3, 0, 0, 0, 0, 0, 500, 386, 0, 0, 289, 0, 0, 0]
def k_X10_turn : List aI := [aO 0 0 1, aO 0 1 0, aV 169 2 [10], aO 0 2 0, aO 15 8 2, aO 0 2 0, aC 1 (.int 49), aO 16 13 2, aO 38 2 0, aO 99 0 0, aO 99 0 0, aO 99 0 0, aO 99 0 0, aO 0 0 1, aO 19 10 1, aO 19 7 8, aO 0 1 0, aO 29 0 0, aO 0 2 0, aV 33 2 [4], aO 39 0 0]
def p_X10_turn : List Nat := [0, 1, 2, 5, 6, 9, 10, 12, 15, 18, 19, 21, 24, 25, 26, 29, 32, 33, 34, 35, 38, 39]
def h_X10_turn : List Nat := [0, 0, 938, 0, 0, 0, 0, 0, 4, 0, 0, 0, 0, 0, 500, 386, 0, 0, 0, 967, 0]
def k_X10_pattern : List aI := [aO 0 0 1, aO 0 1 0, aV 169 2 [10], aO 0 0 1, aO 19 10 1, aO 19 7 8, aO 0 1 0, aO 29 0 0, aO 19 4 2, aO 39 0 0]
def p_X10_pattern : List Nat := [0, 1, 2, 5, 6, 9, 12, 13, 14, 17, 18]
def h_X10_pattern : List Nat := [0, 0, 938, 0, 500, 386, 0, 0, 293, 0]
def k_X10_singular : List aI := [aO 0 0 1, aO 0 1 0, aV 169 2 [10], aO 0 0 1, aO 19 10 1, aO 19 7 8, aO 0 1 0, aO 29 0 0, aO 0 2 0, aO 0 3 0, aO 15 13 0, aC 1 (.int (-8)), aO 17 14 0, aC 1 (.int 8), aV 36 3 [4], aO 39 0 0]
def p_X10_singular : List Nat := [0, 1, 2, 5, 6, 9, 12, 13, 14, 15, 16, 19, 21, 24, 26, 29, 30]
def h_X10_singular : List Nat := [0, 0, 938, 0, 500, 386, 0, 0, 0, 0, 0, 0, 0, 0, 982, 0]
def k_X10_ridges : List aI := [aO 0 0 1, aO 0 1 0, aV 169 2 [10], aO 0 0 1, aO 19 10 1, aO 19 7 8, aO 0 1 0, aO 29 0 0, aO 19 4 3, aO 39 0 0]
def p_X10_ridges : List Nat := [0, 1, 2, 5, 6, 9, 12, 13, 14, 17, 18]
def h_X10_ridges : List Nat := [0, 0, 938, 0, 500, 386, 0, 0, 295, 0]
def k_X10_point : List aI := [aO 0 0 1, aO 0 1 0, aV 169 2 [10], aO 0 2 0, aO 0 3 0, aO 0 4 0, aO 0 5 0, aV 174 4 [], aO 0 0 1, aO 19 10 4, aV 17 1 [2], aO 0 0 1, aO 19 10 1, aO 19 7 8, aO 0 1 0, aO 29 0 0, aO 19 4 1, aO 0 2 0, aO 0 3 0, aO 0 4 0, aO 0 5 0, aV 61 5 [6], aO 39 0 0]
def p_X10_point : List Nat := [0, 1, 2, 5, 6, 7, 9, 11, 14, 15, 18, 21, 22, 25, 28, 29, 30, 33, 34, 35, 37, 39, 42, 43]
def h_X10_point : List Nat := [0, 0, 938, 0, 0, 0, 0, 997, 0, 503, 768, 0, 500, 386, 0, 0, 291, 0, 0, 0, 0, 1004, 0]
def k_X10_mark : List aI := [aO 0 1 0, aO 0 3 0, aV 175 2 [], aO 15 8 0, aO 0 2 0, aO 0 4 0, aV 175 2 [], aO 15 13 1, aO 38 0 0, aO 99 0 0, aO 99 0 0, aO 99 0 0, aO 99 0 0, aO 0 0 1, aO 19 10 1, aO 19 7 5, aC 1 (.int 20), aO 16 23 2, aO 38 1 0, aO 99 0 0, aO 99 0 0, aO 99 0 0, aO 99 0 0, aO 0 0 1, aO 19 10 1, aO 19 7 9, aO 0 0 1, aO 19 10 1, aO 19 7 5, aO 29 0 0, aO 1 6 1, aO 0 6 1, aO 19 3 0, aO 0 1 0, aO 0 2 0, aO 0 3 0, aO 0 4 0, aV 60 5 [6], aO 0 6 1, aO 0 5 0, aO 20 3 1, aO 0 6 1, aO 0 0 1, aO 19 10 1, aO 19 7 0, aO 20 3 2, aO 0 0 1, aO 19 10 1, aO 12 0 0, aO 19 7 5, aC 0 (.int 1), aO 4 0 0, aO 20 7 5, aO 0 0 1, aO 19 10 1, aO 19 7 5, aC 0 (.int 1), aO 4 0 1, aO 39 0 0]
def p_X10_mark : List Nat := [0, 1, 2, 5, 8, 9, 11, 14, 17, 20, 21, 23, 26, 27, 28, 31, 34, 36, 39, 42, 43, 45, 48, 49, 50, 53, 56, 57, 60, 63, 64, 66, 68, 71, 72, 73, 74, 76, 79, 81, 83, 86, 88, 89, 92, 95, 98, 99, 102, 103, 106, 107, 108, 111, 112, 115, 118, 119, 120, 121]
def h_X10_mark : List Nat := [0, 0, 1000, 0, 0, 0, 1000, 0, 6, 0, 0, 0, 0, 0, 500, 380, 0, 0, 7, 0, 0, 0, 0, 0, 500, 388, 0, 500, 380, 0, 0, 0, 318, 0, 0, 0, 0, 1014, 0, 0, 320, 0, 0, 500, 369, 322, 0, 500, 0, 380, 0, 0, 380, 0, 500, 380, 0, 0, 0]
def k_X10_spot : List aI := [aO 0 0 1, aO 0 1 0, aV 170 2 [10], aO 0 2 0, aO 0 3 0, aO 0 4 0, aO 0 5 0, aV 174 4 [], aO 0 0 1, aO 19 10 4, aV 17 1 [2], aO 0 0 1, aO 19 10 1, aO 19 7 9, aO 0 1 0, aO 29 0 0, aO 19 3 0, aO 0 2 0, aO 0 3 0, aO 0 4 0, aO 0 5 0, aV 61 5 [6], aO 39 0 0]
def p_X10_spot : List Nat := [0, 1, 2, 5, 6, 7, 9, 11, 14, 15, 18, 21, 22, 25, 28, 29, 30, 33, 34, 35, 37, 39, 42, 43]
def h_X10_spot : List Nat := [0, 0, 1022, 0, 0, 0, 0, 997, 0, 503, 768, 0, 500, 388, 0, 0, 318, 0, 0, 0, 0, 1004, 0]
def k_X10_slack : List aI := [aO 0 1 0, aO 15 5 2, aO 0 1 0, aC 1 (.int 8), aO 16 10 5, aO 38 0 0, aO 99 0 0, aO 99 0 0, aO 99 0 0, aO 99 0 0, aO 0 0 1, aO 19 10 1, aO 0 1 0, aO 20 7 1, aO 0 0 1, aO 19 10 4, aV 17 1 [2], aO 39 0 3]
def p_X10_slack : List Nat := [0, 1, 4, 5, 7, 10, 13, 14, 16, 19, 20, 21, 24, 25, 28, 29, 32, 35, 36]
def h_X10_slack : List Nat := [0, 0, 0, 0, 0, 9, 0, 0, 0, 0, 0, 500, 0, 372, 0, 503, 768, 0]
def k_X10_lay : List aI := [aO 0 0 1, aO 0 1 0, aV 170 2 [10], aO 0 0 1, aO 0 2 0, aV 169 2 [10], aO 0 3 0, aO 15 11 2, aO 0 3 0, aC 0 (.int 5), aO 16 16 2, aO 38 3 0, aO 99 0 0, aO 99 0 0, aO 99 0 0, aO 99 0 0, aO 0 0 1, aO 19 10 4, aO 0 0 1, aO 19 10 4, aO 0 1 0, aO 0 2 0, aV 15 3 [2], aO 0 0 1, aO 19 10 1, aO 19 7 9, aO 0 1 0, aO 29 0 0, aO 19 3 0, aO 0 0 1, aO 19 10 1, aO 19 7 8, aO 0 2 0, aO 29 0 0, aO 19 4 1, aO 0 0 1, aO 19 10 1, aO 19 7 1, aV 18 5 [2], aO 0 3 0, aT 57 0 [41, 45, 49, 53], aO 0 0 1, aO 19 10 4, aO 19 2 0, aO 39 0 0, aO 0 0 1, aO 19 10 4, aO 19 2 1, aO 39 0 0, aO 0 0 1, aO 19 10 4, aO 19 2 2, aO 39 0 0, aO 0 0 1, aO 19 10 4, aO 19 2 3, aO 39 0 0, aO 0 0 1, aO 19 10 4, aO 19 2 4, aO 39 0 0]
def p_X10_lay : List Nat := [0, 1, 2, 5, 6, 7, 10, 11, 14, 15, 16, 19, 22, 23, 25, 28, 29, 30, 33, 34, 37, 38, 39, 42, 43, 46, 49, 50, 51, 54, 55, 58, 61, 62, 63, 66, 67, 70, 73, 76, 77, 108, 109, 112, 115, 116, 117, 120, 123, 124, 125, 128, 131, 132, 133, 136, 139, 140, 141, 144, 147, 148]
def h_X10_lay : List Nat := [0, 0, 1022, 0, 0, 938, 0, 0, 0, 0, 0, 10, 0, 0, 0, 0, 0, 503, 0, 503, 0, 0, 1063, 0, 500, 388, 0, 0, 318, 0, 500, 386, 0, 0, 291, 0, 500, 372, 603, 0, 0, 0, 503, 439, 0, 0, 503, 442, 0, 0, 503, 444, 0, 0, 503, 446, 0, 0, 503, 448, 0]
def k_X10_card : List aI := [aO 0 1 0, aO 15 5 2, aO 0 1 0, aC 2 (.int 9999), aO 16 10 5, aO 38 0 0, aO 99 0 0, aO 99 0 0, aO 99 0 0, aO 99 0 0, aO 0 0 1, aO 19 10 1, aO 19 7 6, aC 1 (.int 16), aO 16 20 2, aO 38 1 0, aO 99 0 0, aO 99 0 0, aO 99 0 0, aO 99 0 0, aO 0 0 1, aO 19 10 1, aO 19 7 10, aO 0 0 1, aO 19 10 1, aO 19 7 6, aO 29 0 0, aO 0 1 0, aO 0 0 1, aO 19 10 1, aO 19 7 0, aV 1 3 [0], aO 0 0 1, aO 19 10 1, aO 12 0 0, aO 19 7 6, aC 0 (.int 1), aO 4 0 0, aO 20 7 6, aO 0 0 1, aO 19 10 1, aO 19 7 6, aC 0 (.int 1), aO 4 0 1, aO 39 0 0]
def p_X10_card : List Nat := [0, 1, 4, 5, 8, 11, 14, 15, 17, 20, 21, 22, 25, 28, 30, 33, 36, 37, 39, 42, 43, 44, 47, 50, 51, 54, 57, 58, 59, 60, 63, 66, 69, 70, 73, 74, 77, 78, 79, 82, 83, 86, 89, 90, 91, 92]
def h_X10_card : List Nat := [0, 0, 0, 0, 0, 11, 0, 0, 0, 0, 0, 500, 382, 0, 0, 12, 0, 0, 0, 0, 0, 500, 390, 0, 500, 382, 0, 0, 0, 500, 369, 1076, 0, 500, 0, 382, 0, 0, 382, 0, 500, 382, 0, 0, 0]
def k_X10_finger : List aI := [aO 0 0 1, aO 0 1 0, aV 171 2 [10], aO 0 2 0, aV 172 1 [], aO 0 3 0, aC 0 (.int (-1)), aO 16 11 0, aO 0 0 1, aO 0 3 0, aV 169 2 [10], aO 0 0 1, aO 19 10 1, aO 19 7 10, aO 0 1 0, aO 29 0 0, aO 1 4 1, aO 0 4 1, aO 19 0 3, aO 0 2 0, aO 23 0 0, aO 0 3 0, aO 16 25 1, aC 0 (.int 0), aO 39 0 0, aO 0 4 1, aO 19 0 3, aO 0 2 0, aO 0 3 0, aO 24 0 0, aO 0 4 1, aO 19 0 5, aO 0 2 0, aC 0 (.int 0), aO 24 0 0, aC 0 (.int 1), aO 39 0 0]
def p_X10_finger : List Nat := [0, 1, 2, 5, 6, 9, 10, 11, 14, 15, 16, 19, 20, 23, 26, 27, 28, 30, 32, 35, 36, 37, 38, 41, 42, 43, 45, 48, 49, 50, 51, 53, 56, 57, 58, 59, 60, 61]
def h_X10_finger : List Nat := [0, 0, 1087, 0, 1093, 0, 0, 0, 0, 0, 938, 0, 500, 390, 0, 0, 0, 0, 345, 0, 0, 0, 0, 0, 0, 0, 345, 0, 0, 0, 0, 351, 0, 0, 0, 0, 0]
def k_X10_doubt : List aI := [aO 0 0 1, aO 0 1 0, aV 171 2 [10], aO 0 2 0, aV 172 1 [], aO 0 3 0, aC 0 (.int (-1)), aO 16 11 2, aO 0 3 0, aC 1 (.int 7), aO 16 16 5, aO 38 0 0, aO 99 0 0, aO 99 0 0, aO 99 0 0, aO 99 0 0, aO 0 0 1, aO 19 10 1, aO 19 7 10, aO 0 1 0, aO 29 0 0, aO 1 4 1, aO 0 4 1, aV 2 1 [0], aO 0 4 1, aO 19 0 4, aO 0 2 0, aO 23 0 0, aC 0 (.int (-1)), aO 16 32 1, aC 0 (.int 0), aO 17 33 0, aC 0 (.int 1), aO 4 0 1, aO 1 5 0, aO 0 5 0, aC 0 (.int 4), aO 16 40 2, aC 0 (.int 0), aO 39 0 0, aO 0 4 1, aO 19 0 4, aO 0 2 0, aO 0 3 0, aO 24 0 0, aC 0 (.int 1), aO 39 0 0]
def p_X10_doubt : List Nat := [0, 1, 2, 5, 6, 9, 10, 11, 14, 15, 17, 20, 23, 24, 26, 29, 30, 31, 34, 37, 38, 39, 41, 43, 46, 48, 51, 52, 53, 54, 57, 58, 61, 62, 63, 65, 67, 68, 71, 72, 73, 75, 78, 79, 80, 81, 82, 83]
def h_X10_doubt : List Nat := [0, 0, 1087, 0, 1093, 0, 0, 0, 0, 0, 0, 15, 0, 0, 0, 0, 0, 500, 390, 0, 0, 0, 0, 1106, 0, 348, 0, 0, 0, 0, 0, 0, 0, 0, 0, 0, 0, 0, 0, 0, 0, 348, 0, 0, 0, 0, 0]
def k_X10_kind : List aI := [aO 0 0 1, aO 0 1 0, aV 171 2 [10], aO 0 2 0, aV 172 1 [], aO 0 0 1, aO 19 10 1, aO 0 1 0, aO 0 2 0, aC 0 (.int 0), aV 80 4 [7], aO 39 0 0]
def p_X10_kind : List Nat := [0, 1, 2, 5, 6, 9, 10, 13, 14, 15, 16, 19, 20]
def h_X10_kind : List Nat := [0, 0, 1087, 0, 1093, 0, 500, 0, 0, 0, 1117, 0]
def k_X10_number : List aI := [aO 0 0 1, aO 0 1 0, aV 171 2 [10], aO 0 0 1, aO 19 10 1, aO 0 1 0, aC 0 (.int 0), aV 81 3 [7], aO 1 3 0, aO 0 2 0, aO 15 15 0, aO 0 3 0, aC 2 (.int 32767), aO 4 0 3, aO 17 18 0, aO 0 3 0, aC 1 (.int 15), aO 4 0 7, aO 39 0 0]
def p_X10_number : List Nat := [0, 1, 2, 5, 6, 9, 10, 11, 14, 15, 16, 19, 20, 23, 24, 27, 28, 30, 31, 32]
def h_X10_number : List Nat := [0, 0, 1087, 0, 500, 0, 0, 1134, 0, 0, 0, 0, 0, 0, 0, 0, 0, 0, 0]
def k_X10_drawers : List aI := [aO 0 0 1, aO 0 1 0, aV 171 2 [10], aO 0 0 1, aO 19 10 1, aO 0 1 0, aO 0 0 1, aO 19 10 8, aV 82 3 [7], aO 1 2 0, aC 0 (.int 0), aO 1 3 0, aC 0 (.int 0), aO 1 4 0, aO 0 4 0, aO 0 2 0, aO 16 29 3, aO 0 0 1, aO 19 10 8, aO 0 4 0, aO 0 0 1, aO 19 10 8, aO 0 4 0, aO 23 0 0, aV 131 3 [], aO 15 27 1, aN 3 1, aN 4 1, aO 17 14 0, aO 0 3 0, aO 39 0 0]
def p_X10_drawers : List Nat := [0, 1, 2, 5, 6, 9, 10, 11, 14, 17, 18, 19, 20, 21, 23, 25, 26, 29, 30, 33, 35, 36, 39, 41, 42, 45, 48, 51, 54, 57, 58, 59]
def h_X10_drawers : List Nat := [0, 0, 1087, 0, 500, 0, 0, 507, 1146, 0, 0, 0, 0, 0, 0, 0, 0, 0, 507, 0, 0, 507, 0, 0, 1155, 0, 0, 0, 0, 0, 0]
def k_X10_like : List aI := [aO 0 0 1, aO 0 1 0, aV 171 2 [10], aO 0 0 1, aO 19 10 1, aO 0 1 0, aO 0 0 1, aO 19 10 8, aV 82 3 [7], aO 1 3 0, aC 0 (.int 0), aO 1 4 0, aC 0 (.int 0), aO 1 5 0, aO 0 5 0, aO 0 0 1, aO 19 10 1, aO 19 7 6, aO 16 41 3, aO 0 5 0, aO 0 1 0, aO 16 39 0, aO 0 0 1, aO 19 10 1, aO 0 5 0, aV 73 2 [7], aO 15 39 0, aO 0 0 1, aO 0 5 0, aO 0 3 0, aV 130 3 [10], aO 15 33 1, aO 17 39 0, aO 0 4 0, aO 0 2 0, aO 16 38 1, aO 0 5 0, aO 39 0 0, aN 4 1, aN 5 1, aO 17 14 0, aC 0 (.int (-1)), aO 39 0 0]
def p_X10_like : List Nat := [0, 1, 2, 5, 6, 9, 10, 11, 14, 17, 18, 19, 21, 22, 24, 26, 27, 30, 33, 36, 38, 39, 42, 43, 46, 48, 51, 54, 55, 57, 58, 61, 64, 67, 69, 70, 73, 75, 76, 79, 82, 85, 86, 87]
def h_X10_like : List Nat := [0, 0, 1087, 0, 500, 0, 0, 507, 1146, 0, 0, 0, 0, 0, 0, 0, 500, 382, 0, 0, 0, 0, 0, 500, 0, 1165, 0, 0, 0, 0, 1166, 0, 0, 0, 0, 0, 0, 0, 0, 0, 0, 0, 0]
def k_X10_sharesReading : List aI := [aO 0 0 1, aO 19 10 1, aO 0 1 0, aO 0 0 1, aO 19 10 9, aV 82 3 [7], aO 1 3 0, aC 0 (.int 0), aO 1 4 0, aO 0 4 0, aO 0 3 0, aO 16 25 3, aO 0 0 1, aO 19 10 8, aO 0 2 0, aO 0 0 1, aO 19 10 9, aO 0 4 0, aO 23 0 0, aV 131 3 [], aO 15 23 0, aC 0 (.int 1), aO 39 0 0, aN 4 1, aO 17 9 0, aC 0 (.int 0), aO 39 0 0]
def p_X10_sharesReading : List Nat := [0, 1, 4, 5, 6, 9, 12, 13, 14, 16, 18, 19, 22, 23, 26, 27, 28, 31, 33, 34, 37, 40, 41, 42, 45, 48, 49, 50]
def h_X10_sharesReading : List Nat := [0, 500, 0, 0, 508, 1146, 0, 0, 0, 0, 0, 0, 0, 507, 0, 0, 508, 0, 0, 1155, 0, 0, 0, 0, 0, 0, 0]
def k_X10_holds : List aI := [aC 0 (.int 0), aO 1 3 0, aO 0 3 0, aO 0 1 0, aO 16 18 3, aO 0 3 0, aO 0 0 1, aO 22 0 0, aO 16 18 3, aO 0 0 1, aO 0 3 0, aO 23 0 0, aO 0 2 0, aO 16 16 1, aC 0 (.int 1), aO 39 0 0, aN 3 1, aO 17 2 0, aC 0 (.int 0), aO 39 0 0]
def p_X10_holds : List Nat := [0, 1, 2, 3, 4, 7, 8, 9, 10, 13, 14, 15, 16, 17, 20, 21, 22, 25, 28, 29, 30]
def h_X10_holds : List Nat := [0, 0, 0, 0, 0, 0, 0, 0, 0, 0, 0, 0, 0, 0, 0, 0, 0, 0, 0, 0]
def k_X10_rules : List aI := [aO 0 1 0, aO 0 0 1, aO 19 10 1, aO 19 7 0, aO 16 8 2, aO 0 1 0, aC 2 (.int 2000), aO 16 17 5, aO 0 0 1, aO 19 10 0, aC 0 (.int 0), aO 20 9 1, aO 38 0 0, aO 99 0 0, aO 99 0 0, aO 99 0 0, aO 99 0 0, aO 0 0 1, aO 19 10 7, aO 0 0 1, aO 19 10 0, aV 43 2 [5], aO 1 2 0, aO 0 0 1, aO 19 10 0, aC 0 (.int 0), aO 20 9 1, aO 0 2 0, aO 15 34 1, aO 38 0 0, aO 99 0 0, aO 99 0 0, aO 99 0 0, aO 99 0 0, aO 0 0 1, aO 19 10 1, aO 19 7 7, aC 1 (.int 10), aO 16 44 2, aO 38 1 0, aO 99 0 0, aO 99 0 0, aO 99 0 0, aO 99 0 0, aO 0 0 1, aO 19 10 7, aO 0 1 0, aO 20 5 0, aO 0 0 1, aO 19 10 1, aO 19 7 11, aO 0 0 1, aO 19 10 1, aO 19 7 7, aO 29 0 0, aO 0 0 1, aO 19 10 7, aV 58 2 [5], aO 0 0 1, aO 19 10 1, aO 12 0 0, aO 19 7 7, aC 0 (.int 1), aO 4 0 0, aO 20 7 7, aO 0 0 1, aO 19 10 7, aO 19 5 1, aO 39 0 0]
def p_X10_rules : List Nat := [0, 1, 2, 5, 8, 11, 12, 15, 18, 19, 22, 23, 26, 29, 30, 33, 36, 37, 38, 41, 42, 45, 48, 49, 50, 53, 54, 57, 58, 61, 64, 65, 67, 70, 71, 72, 75, 78, 80, 83, 86, 87, 90, 93, 94, 95, 98, 99, 102, 103, 106, 109, 110, 113, 116, 117, 118, 121, 124, 125, 128, 129, 132, 133, 134, 137, 138, 141, 144, 145]
def h_X10_rules : List Nat := [0, 0, 500, 369, 0, 0, 0, 0, 0, 499, 0, 149, 16, 0, 0, 0, 0, 0, 506, 0, 499, 1178, 0, 0, 499, 0, 149, 0, 0, 0, 0, 0, 0, 0, 0, 500, 384, 0, 0, 18, 0, 0, 0, 0, 0, 506, 0, 197, 0, 500, 392, 0, 500, 384, 0, 0, 506, 1306, 0, 500, 0, 384, 0, 0, 384, 0, 506, 199, 0]
def k_X10_verdict : List aI := [aO 0 0 1, aO 0 1 0, aV 170 2 [10], aO 0 0 1, aO 0 2 0, aV 169 2 [10], aO 0 0 1, aO 19 10 1, aO 0 3 0, aV 68 2 [7], aO 0 0 1, aO 0 1 0, aO 0 2 0, aO 0 3 0, aV 135 4 [10], aV 54 2 [5], aO 39 0 0]
def p_X10_verdict : List Nat := [0, 1, 2, 5, 6, 7, 10, 11, 14, 15, 18, 19, 20, 21, 22, 25, 28, 29]
def h_X10_verdict : List Nat := [0, 0, 1022, 0, 0, 938, 0, 500, 0, 568, 0, 0, 0, 0, 1314, 690, 0]
def k_X10_why : List aI := [aO 0 0 1, aO 0 1 0, aV 170 2 [10], aO 0 0 1, aO 0 2 0, aV 169 2 [10], aO 0 0 1, aO 0 1 0, aO 0 2 0, aO 0 3 0, aV 135 4 [10], aO 39 0 0]
def p_X10_why : List Nat := [0, 1, 2, 5, 6, 7, 10, 11, 12, 13, 14, 17, 18]
def h_X10_why : List Nat := [0, 0, 1022, 0, 0, 938, 0, 0, 0, 0, 1314, 0]
def k_X10_decidingRule : List aI := [aO 0 0 1, aO 19 10 1, aO 0 1 0, aV 70 2 [7], aO 15 10 0, aO 0 0 1, aO 19 10 1, aO 0 2 0, aV 69 2 [7], aO 15 12 1, aC 0 (.int (-1)), aO 39 0 0, aO 0 0 1, aO 19 10 1, aO 19 7 9, aO 0 1 0, aO 29 0 0, aO 1 4 1, aO 0 0 1, aO 19 10 1, aO 19 7 8, aO 0 2 0, aO 29 0 0, aO 1 5 1, aO 0 0 1, aO 19 10 4, aO 0 0 1, aO 19 10 4, aO 0 1 0, aO 0 2 0, aV 15 3 [2], aO 0 4 1, aO 19 3 0, aO 0 5 1, aO 19 4 1, aO 0 0 1, aO 19 10 1, aO 19 7 1, aV 18 5 [2], aO 0 0 1, aO 19 10 5, aO 0 0 1, aO 19 10 4, aO 0 4 1, aO 19 3 0, aO 19 6 4, aO 0 5 1, aO 19 4 4, aV 9 4 [1], aO 0 0 1, aO 19 10 5, aO 0 3 0, aO 6 0 0, aO 0 4 1, aO 19 3 2, aO 6 0 0, aO 8 0 1, aV 11 2 [1], aO 0 0 1, aO 19 10 5, aC 0 (.int 0), aO 0 4 1, aO 19 3 1, aV 12 3 [1], aO 0 0 1, aO 19 10 1, aO 0 3 0, aV 68 2 [7], aO 0 0 1, aO 19 10 5, aV 53 2 [5], aO 39 0 0]
def p_X10_decidingRule : List Nat := [0, 1, 4, 5, 8, 11, 12, 15, 16, 19, 22, 23, 24, 25, 28, 31, 32, 33, 35, 36, 39, 42, 43, 44, 46, 47, 50, 51, 54, 55, 56, 59, 61, 64, 66, 69, 70, 73, 76, 79, 80, 83, 84, 87, 89, 92, 95, 97, 100, 103, 104, 107, 108, 109, 111, 114, 115, 116, 119, 120, 123, 124, 126, 129, 132, 133, 136, 137, 140, 141, 144, 147, 148]
def h_X10_decidingRule : List Nat := [0, 500, 0, 1026, 0, 0, 500, 0, 595, 0, 0, 0, 0, 500, 388, 0, 0, 0, 0, 500, 386, 0, 0, 0, 0, 503, 0, 503, 0, 0, 1063, 0, 318, 0, 291, 0, 500, 372, 603, 0, 504, 0, 503, 0, 318, 264, 0, 298, 670, 0, 504, 0, 0, 0, 322, 0, 0, 1318, 0, 504, 0, 0, 320, 1322, 0, 500, 0, 568, 0, 504, 674, 0]
def k_X10_say : List aI := [aO 0 0 1, aO 0 1 0, aO 0 2 0, aO 0 3 0, aO 0 4 0, aV 173 5 [10], aO 0 5 0, aO 15 11 2, aO 0 5 0, aC 0 (.int 2), aO 16 16 5, aO 38 0 0, aO 99 0 0, aO 99 0 0, aO 99 0 0, aO 99 0 0, aO 0 0 1, aO 19 10 1, aO 19 7 13, aO 1 6 1, aO 0 0 1, aO 19 10 1, aO 0 3 0, aO 0 4 0, aV 74 3 [7], aC 0 (.int (-1)), aO 16 30 0, aO 0 6 1, aV 85 1 [8], aO 15 32 0, aC 0 (.int (-1)), aO 39 0 0, aO 0 6 1, aV 86 1 [8], aO 1 7 0, aO 0 6 1, aO 0 7 0, aC 0 (.int 0), aO 0 1 0, aV 89 4 [8], aO 0 6 1, aO 0 7 0, aC 0 (.int 1), aO 0 2 0, aV 89 4 [8], aO 0 6 1, aO 0 7 0, aC 0 (.int 2), aO 0 3 0, aV 89 4 [8], aO 0 6 1, aO 0 7 0, aC 0 (.int 3), aO 0 4 0, aV 89 4 [8], aO 0 6 1, aO 0 7 0, aC 0 (.int 4), aO 0 5 0, aV 89 4 [8], aO 0 6 1, aO 0 7 0, aC 0 (.int 5), aO 0 0 1, aO 19 10 1, aO 19 7 0, aV 89 4 [8], aO 0 6 1, aO 19 8 3, aO 39 0 0]
def p_X10_say : List Nat := [0, 1, 2, 3, 4, 6, 9, 11, 14, 16, 17, 20, 23, 24, 27, 30, 31, 32, 35, 38, 40, 41, 44, 45, 47, 50, 51, 54, 56, 59, 62, 63, 64, 66, 69, 71, 73, 75, 76, 77, 80, 82, 84, 85, 86, 89, 91, 93, 94, 95, 98, 100, 102, 103, 105, 108, 110, 112, 113, 115, 118, 120, 122, 123, 124, 127, 130, 133, 135, 138, 139]
def h_X10_say : List Nat := [0, 0, 0, 0, 0, 1340, 0, 0, 0, 0, 0, 20, 0, 0, 0, 0, 0, 500, 395, 0, 0, 500, 0, 0, 580, 0, 0, 0, 1346, 0, 0, 0, 0, 1350, 0, 0, 0, 0, 0, 1355, 0, 0, 0, 0, 1355, 0, 0, 0, 0, 1355, 0, 0, 0, 0, 1355, 0, 0, 0, 0, 1355, 0, 0, 0, 0, 500, 369, 1355, 0, 233, 0]
def k_X10_said : List aI := [aO 0 0 1, aO 0 1 0, aO 0 2 0, aO 0 3 0, aO 0 4 0, aV 173 5 [10], aO 0 0 1, aO 0 2 0, aO 0 3 0, aO 0 4 0, aO 0 5 0, aV 138 5 [10], aO 0 0 1, aO 19 10 10, aO 0 1 0, aO 23 0 0, aO 39 0 0]
def p_X10_said : List Nat := [0, 1, 2, 3, 4, 6, 9, 10, 11, 12, 14, 16, 19, 20, 23, 24, 25, 26]
def h_X10_said : List Nat := [0, 0, 0, 0, 0, 1340, 0, 0, 0, 0, 0, 1366, 0, 509, 0, 0, 0]
def k_X10_gatherSayings : List aI := [aC 0 (.int 0), aO 1 5 0, aO 0 5 0, aC 1 (.int 6), aO 16 12 3, aO 0 0 1, aO 19 10 10, aO 0 5 0, aC 0 (.int (-1)), aO 24 0 0, aN 5 1, aO 17 2 0, aO 0 0 1, aO 19 10 1, aO 19 7 13, aO 1 5 1, aC 0 (.int 0), aO 1 6 0, aO 0 6 0, aO 0 5 1, aO 19 8 3, aO 16 67 3, aO 0 5 1, aO 0 6 0, aC 0 (.int 1), aV 88 3 [8], aO 0 1 0, aO 16 65 1, aO 0 5 1, aO 0 6 0, aC 0 (.int 2), aV 88 3 [8], aO 0 2 0, aO 16 65 1, aO 0 5 1, aO 0 6 0, aC 0 (.int 3), aV 88 3 [8], aO 0 3 0, aO 16 65 1, aO 0 5 1, aO 0 6 0, aC 0 (.int 5), aV 88 3 [8], aO 0 4 0, aO 16 47 5, aO 17 65 0, aO 0 5 1, aO 0 6 0, aC 0 (.int 0), aV 88 3 [8], aO 1 7 0, aO 0 7 0, aO 15 65 2, aO 0 7 0, aC 1 (.int 6), aO 16 65 3, aO 0 0 1, aO 19 10 10, aO 0 7 0, aO 0 5 1, aO 0 6 0, aC 0 (.int 4), aV 88 3 [8], aO 24 0 0, aN 6 1, aO 17 18 0, aO 39 0 3]
def p_X10_gatherSayings : List Nat := [0, 1, 3, 5, 7, 10, 11, 14, 16, 17, 18, 21, 24, 25, 28, 31, 33, 34, 36, 38, 40, 43, 46, 48, 50, 51, 54, 55, 58, 60, 62, 63, 66, 67, 70, 72, 74, 75, 78, 79, 82, 84, 86, 87, 90, 92, 95, 98, 100, 102, 103, 106, 108, 110, 113, 115, 117, 120, 121, 124, 126, 128, 130, 131, 134, 135, 138, 141, 142]
def h_X10_gatherSayings : List Nat := [0, 0, 0, 0, 0, 0, 509, 0, 0, 0, 0, 0, 0, 500, 395, 0, 0, 0, 0, 0, 233, 0, 0, 0, 0, 712, 0, 0, 0, 0, 0, 712, 0, 0, 0, 0, 0, 712, 0, 0, 0, 0, 0, 712, 0, 0, 0, 0, 0, 0, 712, 0, 0, 0, 0, 0, 0, 0, 509, 0, 0, 0, 0, 712, 0, 0, 0, 0]
def k_X10_proved : List aI := [aO 0 0 1, aO 0 1 0, aV 170 2 [10], aO 0 0 1, aO 0 2 0, aV 171 2 [10], aO 0 3 0, aV 172 1 [], aO 0 0 1, aO 0 1 0, aO 0 2 0, aO 0 3 0, aO 0 4 0, aV 140 5 [10], aO 39 0 0]
def p_X10_proved : List Nat := [0, 1, 2, 5, 6, 7, 10, 11, 14, 15, 16, 17, 18, 20, 23, 24]
def h_X10_proved : List Nat := [0, 0, 1022, 0, 0, 1087, 0, 1093, 0, 0, 0, 0, 0, 1377, 0]
def k_X10_isProved : List aI := [aO 0 0 1, aO 19 10 1, aO 0 2 0, aO 0 3 0, aV 74 3 [7], aO 1 5 0, aO 0 5 0, aC 0 (.int (-1)), aO 16 11 1, aC 0 (.int 0), aO 39 0 0, aO 0 0 1, aO 0 1 0, aO 0 2 0, aO 0 3 0, aO 0 4 0, aV 138 5 [10], aC 0 (.int 0), aO 1 6 0, aC 0 (.int 0), aO 1 7 0, aO 0 7 0, aC 1 (.int 6), aO 16 40 3, aO 0 0 1, aO 19 10 10, aO 0 7 0, aO 23 0 0, aO 15 31 1, aC 0 (.int 0), aO 39 0 0, aO 0 0 1, aO 19 10 10, aO 0 7 0, aO 23 0 0, aC 0 (.int 1), aO 16 38 1, aN 6 1, aN 7 1, aO 17 21 0, aO 0 0 1, aO 19 10 1, aO 0 4 0, aV 68 2 [7], aO 1 7 1, aO 0 6 0, aO 0 7 1, aC 0 (.int 2), aC 0 (.int 1), aV 55 3 [5], aO 16 62 2, aO 0 7 1, aO 0 0 1, aO 0 1 0, aO 0 5 0, aO 0 4 0, aV 135 4 [10], aV 54 2 [5], aC 0 (.int 2), aO 16 62 1, aC 0 (.int 1), aO 17 63 0, aC 0 (.int 0), aO 39 0 0]
def p_X10_isProved : List Nat := [0, 1, 4, 5, 6, 9, 11, 13, 14, 17, 18, 19, 20, 21, 22, 23, 25, 28, 29, 31, 32, 34, 36, 38, 41, 42, 45, 47, 48, 51, 52, 53, 54, 57, 59, 60, 61, 64, 67, 70, 73, 74, 77, 79, 82, 84, 86, 88, 89, 90, 93, 96, 98, 99, 100, 102, 104, 107, 110, 111, 114, 115, 118, 119, 120]
def h_X10_isProved : List Nat := [0, 500, 0, 0, 580, 0, 0, 0, 0, 0, 0, 0, 0, 0, 0, 0, 1366, 0, 0, 0, 0, 0, 0, 0, 0, 509, 0, 0, 0, 0, 0, 0, 509, 0, 0, 0, 0, 0, 0, 0, 0, 500, 0, 568, 0, 0, 0, 0, 0, 572, 0, 0, 0, 0, 0, 0, 1314, 690, 0, 0, 0, 0, 0, 0]
def k_X10_alike : List aI := [aO 0 0 1, aO 0 1 0, aV 171 2 [10], aO 0 0 1, aO 0 2 0, aV 171 2 [10], aO 0 0 1, aO 0 1 0, aO 0 2 0, aO 16 12 3, aO 0 1 0, aO 17 13 0, aO 0 2 0, aO 0 1 0, aO 0 2 0, aO 16 18 3, aO 0 2 0, aO 17 19 0, aO 0 1 0, aO 0 3 0, aV 142 4 [10], aO 39 0 0]
def p_X10_alike : List Nat := [0, 1, 2, 5, 6, 7, 10, 11, 12, 13, 16, 17, 20, 21, 22, 23, 26, 27, 30, 31, 32, 35, 36]
def h_X10_alike : List Nat := [0, 0, 1087, 0, 0, 1087, 0, 0, 0, 0, 0, 0, 0, 0, 0, 0, 0, 0, 0, 0, 576, 0]
def k_X10_alikeFingers : List aI := [aC 0 (.int 0), aO 1 4 0, aC 0 (.int 0), aO 1 5 0, aO 0 5 0, aC 1 (.int 10), aO 16 24 3, aO 0 0 1, aO 0 0 1, aO 19 10 1, aO 0 1 0, aO 0 5 0, aV 74 3 [7], aO 0 0 1, aO 19 10 1, aO 0 2 0, aO 0 5 0, aV 74 3 [7], aO 0 3 0, aV 143 4 [10], aO 15 22 0, aN 4 1, aN 5 1, aO 17 4 0, aO 0 4 0, aO 39 0 0]
def p_X10_alikeFingers : List Nat := [0, 1, 3, 4, 6, 8, 10, 13, 14, 15, 18, 19, 21, 24, 25, 28, 29, 31, 34, 35, 38, 41, 44, 47, 50, 52, 53]
def h_X10_alikeFingers : List Nat := [0, 0, 0, 0, 0, 0, 0, 0, 0, 500, 0, 0, 580, 0, 500, 0, 0, 580, 0, 591, 0, 0, 0, 0, 0, 0]
def k_X10_arePrintsAlike : List aI := [aO 0 0 1, aO 19 10 1, aO 0 1 0, aV 69 2 [7], aO 15 10 0, aO 0 0 1, aO 19 10 1, aO 0 2 0, aV 69 2 [7], aO 15 12 1, aC 0 (.int 0), aO 39 0 0, aO 0 0 1, aO 19 10 1, aO 19 7 8, aO 0 1 0, aO 29 0 0, aO 1 4 1, aO 0 0 1, aO 19 10 1, aO 19 7 8, aO 0 2 0, aO 29 0 0, aO 1 5 1, aO 0 4 1, aO 19 4 4, aO 0 5 1, aO 19 4 4, aO 16 31 0, aC 0 (.int 0), aO 39 0 0, aO 0 0 1, aO 19 10 4, aO 0 0 1, aO 19 10 4, aO 0 1 0, aO 0 2 0, aV 16 3 [2], aO 0 4 1, aO 19 4 1, aO 0 5 1, aO 19 4 1, aO 0 0 1, aO 19 10 1, aO 19 7 1, aV 18 5 [2], aO 0 0 1, aO 19 10 5, aO 0 0 1, aO 19 10 4, aO 0 4 1, aO 19 4 1, aO 19 6 4, aO 0 5 1, aO 19 4 4, aV 9 4 [1], aO 0 0 1, aO 19 10 1, aO 0 3 0, aV 68 2 [7], aO 1 6 1, aO 0 6 1, aO 0 6 1, aO 0 0 1, aO 19 10 5, aV 53 2 [5], aV 54 2 [5], aC 0 (.int 2), aO 16 71 1, aC 0 (.int 1), aO 17 72 0, aC 0 (.int 0), aO 39 0 0]
def p_X10_arePrintsAlike : List Nat := [0, 1, 4, 5, 8, 11, 12, 15, 16, 19, 22, 23, 24, 25, 28, 31, 32, 33, 35, 36, 39, 42, 43, 44, 46, 48, 51, 53, 56, 59, 60, 61, 62, 65, 66, 69, 70, 71, 74, 76, 79, 81, 84, 85, 88, 91, 94, 95, 98, 99, 102, 104, 107, 110, 112, 115, 118, 119, 122, 123, 126, 128, 130, 132, 133, 136, 139, 142, 143, 146, 147, 150, 151, 152]
def h_X10_arePrintsAlike : List Nat := [0, 500, 0, 595, 0, 0, 500, 0, 595, 0, 0, 0, 0, 500, 386, 0, 0, 0, 0, 500, 386, 0, 0, 0, 0, 298, 0, 298, 0, 0, 0, 0, 503, 0, 503, 0, 0, 599, 0, 291, 0, 291, 0, 500, 372, 603, 0, 504, 0, 503, 0, 291, 264, 0, 298, 670, 0, 500, 0, 568, 0, 0, 0, 0, 504, 674, 690, 0, 0, 0, 0, 0, 0]
def k_X10_person : List aI := [aO 0 0 1, aO 0 1 0, aV 171 2 [10], aO 0 0 1, aO 0 2 0, aV 147 2 [10], aO 0 0 1, aO 19 10 11, aO 0 1 0, aO 23 0 0, aO 39 0 0]
def p_X10_person : List Nat := [0, 1, 2, 5, 6, 7, 10, 11, 14, 15, 16, 17]
def h_X10_person : List Nat := [0, 0, 1087, 0, 0, 560, 0, 510, 0, 0, 0]
def k_X10_persons : List aI := [aO 0 0 1, aO 0 1 0, aV 147 2 [10], aC 0 (.int 0), aO 1 3 0, aC 0 (.int 0), aO 1 4 0, aO 0 4 0, aO 0 0 1, aO 19 10 1, aO 19 7 6, aO 16 27 3, aO 0 0 1, aO 19 10 11, aO 0 4 0, aO 23 0 0, aO 0 4 0, aO 16 25 1, aO 0 2 0, aO 15 24 0, aO 0 0 1, aO 0 4 0, aV 146 2 [10], aO 15 25 0, aN 3 1, aN 4 1, aO 17 7 0, aO 0 3 0, aO 39 0 0]
def p_X10_persons : List Nat := [0, 1, 2, 5, 6, 7, 8, 10, 12, 13, 16, 19, 22, 23, 26, 28, 29, 31, 34, 35, 38, 39, 41, 44, 47, 50, 53, 56, 57, 58]
def h_X10_persons : List Nat := [0, 0, 560, 0, 0, 0, 0, 0, 0, 500, 382, 0, 0, 510, 0, 0, 0, 0, 0, 0, 0, 0, 700, 0, 0, 0, 0, 0, 0]
def k_X10_hasSecondName : List aI := [aC 0 (.int 0), aO 1 2 0, aO 0 2 0, aO 0 0 1, aO 19 10 1, aO 19 7 6, aO 16 30 3, aO 0 0 1, aO 19 10 11, aO 0 2 0, aO 23 0 0, aO 0 1 0, aO 16 28 1, aO 0 0 1, aO 19 10 1, aO 19 7 10, aO 0 2 0, aO 29 0 0, aO 19 0 0, aO 0 0 1, aO 19 10 1, aO 19 7 10, aO 0 1 0, aO 29 0 0, aO 19 0 0, aO 16 28 0, aC 0 (.int 1), aO 39 0 0, aN 2 1, aO 17 2 0, aC 0 (.int 0), aO 39 0 0]
def p_X10_hasSecondName : List Nat := [0, 1, 2, 3, 4, 7, 10, 13, 14, 17, 18, 19, 20, 23, 24, 27, 30, 31, 32, 35, 36, 39, 42, 43, 44, 47, 50, 51, 52, 55, 58, 59, 60]
def h_X10_hasSecondName : List Nat := [0, 0, 0, 0, 500, 382, 0, 0, 510, 0, 0, 0, 0, 0, 500, 390, 0, 0, 336, 0, 500, 390, 0, 0, 336, 0, 0, 0, 0, 0, 0, 0]
def k_X10_groupPersons : List aI := [aC 0 (.int 0), aO 1 2 0, aO 0 2 0, aO 0 0 1, aO 19 10 1, aO 19 7 6, aO 16 24 3, aO 0 0 1, aO 19 10 11, aO 0 2 0, aO 0 0 1, aO 19 10 1, aO 19 7 10, aO 0 2 0, aO 29 0 0, aO 0 1 0, aV 5 2 [0], aO 15 20 0, aO 0 2 0, aO 17 21 0, aC 0 (.int (-1)), aO 24 0 0, aN 2 1, aO 17 2 0, aO 0 0 1, aO 19 10 1, aO 0 1 0, aV 68 2 [7], aC 0 (.int 3), aC 0 (.int 3), aV 55 3 [5], aO 1 2 0, aC 0 (.int 0), aO 1 3 0, aO 0 3 0, aO 0 0 1, aO 19 10 1, aO 19 7 6, aO 16 90 3, aO 0 3 0, aC 0 (.int 1), aO 4 0 0, aO 1 4 0, aO 0 4 0, aO 0 0 1, aO 19 10 1, aO 19 7 6, aO 16 88 3, aO 0 0 1, aO 19 10 11, aO 0 3 0, aO 23 0 0, aC 0 (.int (-1)), aO 16 86 0, aO 0 0 1, aO 19 10 11, aO 0 4 0, aO 23 0 0, aC 0 (.int (-1)), aO 16 86 0, aO 0 0 1, aO 19 10 11, aO 0 3 0, aO 23 0 0, aO 0 0 1, aO 19 10 11, aO 0 4 0, aO 23 0 0, aO 16 86 0, aO 0 0 1, aO 0 3 0, aO 0 4 0, aO 0 1 0, aV 142 4 [10], aO 0 2 0, aO 16 86 2, aO 0 0 1, aO 0 0 1, aO 19 10 11, aO 0 3 0, aO 23 0 0, aO 0 0 1, aO 19 10 11, aO 0 4 0, aO 23 0 0, aV 148 3 [10], aN 4 1, aO 17 43 0, aN 3 1, aO 17 34 0, aO 39 0 3]
def p_X10_groupPersons : List Nat := [0, 1, 2, 3, 4, 7, 10, 13, 14, 17, 18, 19, 22, 25, 26, 27, 28, 31, 34, 35, 38, 39, 40, 43, 46, 47, 50, 51, 54, 55, 56, 59, 60, 61, 62, 63, 64, 67, 70, 73, 74, 75, 76, 78, 80, 81, 84, 87, 90, 91, 94, 95, 96, 97, 100, 101, 104, 106, 107, 108, 111, 112, 115, 116, 117, 118, 121, 123, 124, 127, 128, 129, 131, 132, 135, 136, 139, 140, 141, 144, 145, 146, 147, 150, 152, 153, 156, 159, 162, 165, 168, 169]
def h_X10_groupPersons : List Nat := [0, 0, 0, 0, 500, 382, 0, 0, 510, 0, 0, 500, 390, 0, 0, 0, 564, 0, 0, 0, 0, 0, 0, 0, 0, 500, 0, 568, 0, 0, 572, 0, 0, 0, 0, 0, 500, 382, 0, 0, 0, 0, 0, 0, 0, 500, 382, 0, 0, 510, 0, 0, 0, 0, 0, 510, 0, 0, 0, 0, 0, 510, 0, 0, 0, 510, 0, 0, 0, 0, 0, 0, 0, 576, 0, 0, 0, 0, 510, 0, 0, 0, 510, 0, 0, 694, 0, 0, 0, 0, 0]
def k_X10_joinPersons : List aI := [aO 0 1 0, aO 0 2 0, aV 336 2 [], aO 1 3 0, aO 0 1 0, aO 0 2 0, aV 335 2 [], aO 1 4 0, aC 0 (.int 0), aO 1 5 0, aO 0 5 0, aO 0 0 1, aO 19 10 1, aO 19 7 6, aO 16 28 3, aO 0 0 1, aO 19 10 11, aO 0 5 0, aO 23 0 0, aO 0 4 0, aO 16 26 1, aO 0 0 1, aO 19 10 11, aO 0 5 0, aO 0 3 0, aO 24 0 0, aN 5 1, aO 17 10 0, aO 39 0 3]
def p_X10_joinPersons : List Nat := [0, 1, 2, 5, 6, 7, 8, 11, 13, 14, 16, 18, 19, 22, 25, 28, 29, 32, 34, 35, 37, 40, 41, 44, 46, 47, 48, 51, 54, 55]
def h_X10_joinPersons : List Nat := [0, 0, 698, 0, 0, 0, 699, 0, 0, 0, 0, 0, 500, 382, 0, 0, 510, 0, 0, 0, 0, 0, 510, 0, 0, 0, 0, 0, 0]
def k_X10_tell : List aI := [aO 0 0 1, aO 0 1 0, aV 171 2 [10], aO 0 2 0, aO 15 8 2, aO 0 2 0, aC 0 (.int 3), aO 16 13 2, aO 38 0 0, aO 99 0 0, aO 99 0 0, aO 99 0 0, aO 99 0 0, aO 0 0 1, aO 19 10 1, aO 19 7 10, aO 0 1 0, aO 29 0 0, aO 1 3 1, aO 0 3 1, aO 19 0 6, aO 0 2 0, aO 23 0 0, aC 0 (.int (-1)), aO 16 27 0, aC 0 (.int 0), aO 39 0 0, aO 0 3 1, aO 19 0 6, aO 0 2 0, aO 0 0 1, aO 19 10 1, aO 19 7 0, aO 24 0 0, aC 0 (.int 1), aO 39 0 0]
def p_X10_tell : List Nat := [0, 1, 2, 5, 6, 9, 10, 11, 14, 17, 18, 21, 24, 25, 26, 29, 32, 33, 34, 35, 36, 39, 40, 41, 42, 45, 46, 47, 48, 51, 52, 53, 56, 59, 60, 61, 62]
def h_X10_tell : List Nat := [0, 0, 1087, 0, 0, 0, 0, 0, 21, 0, 0, 0, 0, 0, 500, 390, 0, 0, 0, 0, 353, 0, 0, 0, 0, 0, 0, 0, 353, 0, 0, 500, 369, 0, 0, 0]
def k_X10_kept : List aI := [aO 0 0 1, aO 0 1 0, aV 171 2 [10], aO 0 0 1, aO 19 10 5, aO 0 0 1, aO 19 10 1, aO 19 7 10, aO 0 1 0, aO 29 0 0, aO 0 2 0, aV 10 3 [1], aO 0 0 1, aO 19 10 1, aO 0 2 0, aV 68 2 [7], aO 0 0 1, aO 19 10 5, aV 57 2 [5], aO 39 0 0]
def p_X10_kept : List Nat := [0, 1, 2, 5, 6, 9, 10, 13, 16, 17, 18, 19, 22, 23, 26, 27, 30, 31, 34, 37, 38]
def h_X10_kept : List Nat := [0, 0, 1087, 0, 504, 0, 500, 390, 0, 0, 0, 1410, 0, 500, 0, 568, 0, 504, 1419, 0]
def k_X10_desk : List aI := [aO 0 1 0, aO 15 5 2, aO 0 1 0, aC 1 (.int 60), aO 16 10 5, aO 38 0 0, aO 99 0 0, aO 99 0 0, aO 99 0 0, aO 99 0 0, aO 0 0 1, aO 19 10 1, aO 0 1 0, aO 20 7 2, aO 39 0 3]
def p_X10_desk : List Nat := [0, 1, 4, 5, 7, 10, 13, 14, 17, 20, 21, 22, 25, 26, 29, 30]
def h_X10_desk : List Nat := [0, 0, 0, 0, 0, 22, 0, 0, 0, 0, 0, 500, 0, 374, 0]
def k_X10_days : List aI := [aO 0 1 0, aO 15 5 2, aO 0 1 0, aC 1 (.int 40), aO 16 10 5, aO 38 0 0, aO 99 0 0, aO 99 0 0, aO 99 0 0, aO 99 0 0, aO 0 0 1, aO 19 10 1, aO 19 7 0, aO 0 1 0, aO 4 0 0, aC 2 (.int 2000), aV 336 2 [], aO 1 2 0, aO 0 0 1, aO 19 10 1, aO 19 7 0, aC 0 (.int 1), aO 4 0 0, aO 1 3 0, aO 0 3 0, aO 0 2 0, aO 16 39 4, aO 0 0 1, aO 19 10 1, aO 0 3 0, aO 20 7 0, aO 0 0 1, aO 0 0 1, aV 153 1 [10], aV 154 2 [10], aO 0 0 1, aV 157 1 [10], aN 3 1, aO 17 24 0, aO 0 0 1, aO 19 10 1, aO 19 7 0, aO 39 0 0]
def p_X10_days : List Nat := [0, 1, 4, 5, 7, 10, 13, 14, 17, 20, 21, 22, 25, 28, 29, 30, 33, 36, 37, 38, 41, 44, 45, 46, 47, 48, 49, 52, 53, 56, 57, 60, 61, 62, 65, 68, 69, 72, 75, 78, 79, 82, 85, 86]
def h_X10_days : List Nat := [0, 0, 0, 0, 0, 23, 0, 0, 0, 0, 0, 500, 369, 0, 0, 0, 698, 0, 0, 500, 369, 0, 0, 0, 0, 0, 0, 0, 500, 0, 369, 0, 0, 1439, 1443, 0, 1459, 0, 0, 0, 500, 369, 0]
def k_X10_provedMarks : List aI := [aC 0 (.int 0), aO 1 1 0, aO 0 0 1, aO 19 10 1, aO 19 7 13, aO 1 2 1, aC 0 (.int 0), aO 1 3 0, aO 0 3 0, aO 0 2 1, aO 19 8 3, aO 16 59 3, aO 0 2 1, aO 0 3 0, aC 0 (.int 1), aV 88 3 [8], aO 1 4 0, aO 0 2 1, aO 0 3 0, aC 0 (.int 2), aV 88 3 [8], aO 1 5 0, aO 0 2 1, aO 0 3 0, aC 0 (.int 4), aV 88 3 [8], aC 0 (.int 1), aO 16 57 1, aO 0 1 0, aO 0 4 0, aO 4 0 7, aC 0 (.int 1), aO 4 0 3, aO 15 57 1, aO 0 0 1, aO 19 10 1, aO 0 5 0, aV 73 2 [7], aO 15 57 0, aO 0 0 1, aO 0 4 0, aO 0 5 0, aO 0 2 1, aO 0 3 0, aC 0 (.int 3), aV 88 3 [8], aO 0 0 1, aO 19 10 1, aO 19 7 0, aV 140 5 [10], aO 15 57 0, aO 0 1 0, aC 0 (.int 1), aO 0 4 0, aO 4 0 6, aO 4 0 4, aO 1 1 0, aN 3 1, aO 17 8 0, aO 0 1 0, aO 39 0 0]
def p_X10_provedMarks : List Nat := [0, 1, 2, 3, 6, 9, 10, 11, 12, 13, 14, 17, 20, 21, 22, 23, 26, 28, 29, 30, 31, 34, 36, 37, 38, 39, 42, 43, 46, 47, 49, 50, 51, 52, 55, 56, 59, 61, 64, 67, 68, 70, 72, 73, 74, 75, 78, 79, 82, 85, 88, 91, 92, 93, 95, 96, 97, 98, 101, 104, 105, 106]
def h_X10_provedMarks : List Nat := [0, 0, 0, 500, 395, 0, 0, 0, 0, 0, 233, 0, 0, 0, 0, 712, 0, 0, 0, 0, 712, 0, 0, 0, 0, 712, 0, 0, 0, 0, 0, 0, 0, 0, 0, 500, 0, 1165, 0, 0, 0, 0, 0, 0, 0, 712, 0, 500, 369, 1377, 0, 0, 0, 0, 0, 0, 0, 0, 0, 0, 0]
def k_X10_workDesk : List aI := [aO 0 0 1, aO 19 10 1, aO 19 7 2, aO 1 2 0, aC 0 (.int 0), aO 1 3 0, aO 0 3 0, aC 0 (.int 2), aO 16 51 3, aC 0 (.int 0), aO 1 4 0, aO 0 4 0, aO 0 0 1, aO 19 10 1, aO 19 7 5, aO 16 49 3, aO 0 0 1, aO 19 10 1, aO 19 7 9, aO 0 4 0, aO 29 0 0, aO 19 3 1, aO 0 3 0, aO 15 26 1, aC 0 (.int 1), aO 17 27 0, aC 0 (.int 0), aO 16 30 1, aC 0 (.int 1), aO 17 31 0, aC 0 (.int 0), aO 1 5 0, aO 0 5 0, aO 15 47 0, aO 0 1 0, aO 0 4 0, aO 4 0 7, aC 0 (.int 1), aO 4 0 3, aO 15 47 1, aO 0 2 0, aO 0 0 1, aO 0 4 0, aO 0 2 0, aV 155 3 [10], aO 4 0 1, aO 1 2 0, aN 4 1, aO 17 11 0, aN 3 1, aO 17 6 0, aO 39 0 3]
def p_X10_workDesk : List Nat := [0, 1, 4, 7, 8, 9, 10, 11, 12, 15, 16, 18, 20, 21, 24, 27, 30, 31, 34, 37, 39, 40, 43, 44, 47, 48, 51, 52, 55, 56, 59, 60, 62, 64, 67, 68, 70, 71, 72, 73, 76, 77, 78, 80, 81, 84, 85, 86, 89, 92, 95, 98, 99]
def h_X10_workDesk : List Nat := [0, 500, 374, 0, 0, 0, 0, 0, 0, 0, 0, 0, 0, 500, 380, 0, 0, 500, 388, 0, 0, 320, 0, 0, 0, 0, 0, 0, 0, 0, 0, 0, 0, 0, 0, 0, 0, 0, 0, 0, 0, 0, 0, 0, 1447, 0, 0, 0, 0, 0, 0, 0]
def k_X10_compareMark : List aI := [aO 0 0 1, aO 19 10 1, aO 0 0 1, aO 19 10 1, aO 19 7 0, aV 68 2 [7], aO 1 3 1, aC 0 (.int 0), aO 1 4 0, aC 0 (.int 0), aO 1 5 0, aO 0 5 0, aO 0 0 1, aO 19 10 1, aO 19 7 6, aO 16 74 3, aC 0 (.int 0), aO 1 6 0, aO 0 6 0, aC 1 (.int 10), aO 16 72 3, aO 0 4 0, aO 0 2 0, aO 16 72 3, aO 0 0 1, aO 19 10 1, aO 0 1 0, aO 0 5 0, aO 0 6 0, aV 79 4 [7], aO 15 32 1, aO 17 70 0, aO 0 0 1, aO 19 10 1, aO 19 7 10, aO 0 5 0, aO 29 0 0, aO 1 7 1, aO 0 7 1, aO 19 0 5, aO 0 6 0, aO 12 0 1, aO 23 0 0, aC 0 (.int 1), aO 0 1 0, aO 4 0 6, aO 4 0 4, aO 24 0 0, aN 4 1, aO 0 3 1, aO 0 0 1, aO 0 1 0, aO 0 7 1, aO 19 0 3, aO 0 6 0, aO 23 0 0, aO 0 0 1, aO 19 10 1, aO 19 7 0, aV 135 4 [10], aV 54 2 [5], aO 1 8 0, aO 0 8 0, aO 15 70 0, aO 0 0 1, aO 0 1 0, aO 0 5 0, aO 0 6 0, aO 0 8 0, aV 156 5 [10], aN 6 1, aO 17 18 0, aN 5 1, aO 17 11 0, aO 0 0 1, aO 19 10 1, aO 12 0 0, aO 19 7 3, aO 0 4 0, aO 4 0 0, aO 20 7 3, aO 0 4 0, aO 39 0 0]
def p_X10_compareMark : List Nat := [0, 1, 4, 5, 8, 11, 14, 15, 16, 18, 19, 21, 23, 24, 27, 30, 33, 34, 36, 38, 40, 43, 45, 46, 49, 50, 53, 54, 56, 58, 61, 64, 67, 68, 71, 74, 76, 77, 79, 81, 84, 86, 87, 88, 89, 90, 91, 92, 93, 96, 97, 98, 99, 101, 104, 106, 107, 108, 111, 114, 117, 120, 122, 124, 127, 128, 129, 131, 133, 135, 138, 141, 144, 147, 150, 151, 154, 155, 158, 160, 161, 164, 166, 167]
def h_X10_compareMark : List Nat := [0, 500, 0, 500, 369, 568, 0, 0, 0, 0, 0, 0, 0, 500, 382, 0, 0, 0, 0, 0, 0, 0, 0, 0, 0, 500, 0, 0, 0, 1451, 0, 0, 0, 500, 390, 0, 0, 0, 0, 351, 0, 0, 0, 0, 0, 0, 0, 0, 0, 0, 0, 0, 0, 345, 0, 0, 0, 500, 369, 1314, 690, 0, 0, 0, 0, 0, 0, 0, 0, 1455, 0, 0, 0, 0, 0, 500, 0, 376, 0, 0, 376, 0, 0]
def k_X10_keepHit : List aI := [aO 0 0 1, aO 19 10 1, aO 19 7 14, aO 1 5 1, aO 0 5 1, aV 86 1 [8], aO 1 6 0, aO 0 5 1, aO 0 6 0, aC 0 (.int 0), aO 0 1 0, aV 89 4 [8], aO 0 5 1, aO 0 6 0, aC 0 (.int 1), aO 0 2 0, aV 89 4 [8], aO 0 5 1, aO 0 6 0, aC 0 (.int 2), aO 0 3 0, aV 89 4 [8], aO 0 5 1, aO 0 6 0, aC 0 (.int 3), aO 0 4 0, aV 89 4 [8], aO 0 5 1, aO 0 6 0, aC 0 (.int 4), aO 0 0 1, aO 19 10 4, aO 19 2 0, aV 89 4 [8], aO 0 5 1, aO 0 6 0, aC 0 (.int 5), aO 0 0 1, aO 19 10 1, aO 19 7 0, aV 89 4 [8], aO 0 5 1, aO 0 6 0, aC 1 (.int 6), aO 0 0 1, aO 19 10 4, aO 19 2 0, aV 89 4 [8], aO 39 0 3]
def p_X10_keepHit : List Nat := [0, 1, 4, 7, 9, 11, 14, 16, 18, 20, 21, 22, 25, 27, 29, 30, 31, 34, 36, 38, 39, 40, 43, 45, 47, 48, 50, 53, 55, 57, 58, 59, 62, 65, 68, 70, 72, 73, 74, 77, 80, 83, 85, 87, 89, 90, 93, 96, 99, 100]
def h_X10_keepHit : List Nat := [0, 500, 397, 0, 0, 1350, 0, 0, 0, 0, 0, 1355, 0, 0, 0, 0, 1355, 0, 0, 0, 0, 1355, 0, 0, 0, 0, 1355, 0, 0, 0, 0, 503, 439, 1355, 0, 0, 0, 0, 500, 369, 1355, 0, 0, 0, 0, 503, 439, 1355, 0]
def k_X10_strikeCards : List aI := [aO 0 0 1, aO 19 10 1, aO 0 0 1, aO 19 10 1, aO 19 7 0, aV 68 2 [7], aO 1 1 1, aC 0 (.int 0), aO 1 2 0, aO 0 2 0, aO 0 0 1, aO 19 10 1, aO 19 7 6, aO 16 67 3, aO 0 0 1, aO 19 10 1, aO 19 7 10, aO 0 2 0, aO 29 0 0, aO 1 3 1, aO 0 3 1, aO 19 0 2, aC 0 (.int (-1)), aO 16 25 0, aO 17 65 0, aO 0 0 1, aO 19 10 5, aO 0 3 1, aO 0 0 1, aO 19 10 1, aO 19 7 0, aV 10 3 [1], aO 0 1 1, aC 0 (.int 4), aV 56 2 [5], aO 15 49 0, aO 0 0 1, aO 19 10 1, aO 19 7 0, aO 0 3 1, aO 19 0 1, aO 4 0 1, aO 0 1 1, aO 0 0 1, aO 19 10 5, aV 57 2 [5], aO 16 49 5, aC 0 (.int 1), aO 17 50 0, aC 0 (.int 0), aO 1 4 0, aO 0 4 0, aO 15 60 1, aO 0 1 1, aC 0 (.int 5), aO 0 0 1, aO 19 10 5, aV 52 3 [5], aC 0 (.int (-1)), aO 16 65 0, aO 0 3 1, aO 0 0 1, aO 19 10 1, aO 19 7 0, aO 20 0 2, aN 2 1, aO 17 9 0, aO 39 0 3]
def p_X10_strikeCards : List Nat := [0, 1, 4, 5, 8, 11, 14, 15, 16, 17, 18, 19, 22, 25, 28, 29, 32, 35, 36, 37, 38, 39, 42, 43, 46, 49, 50, 53, 54, 55, 58, 61, 64, 65, 66, 69, 72, 73, 76, 79, 80, 83, 84, 85, 86, 89, 92, 95, 96, 99, 100, 102, 104, 107, 108, 109, 110, 113, 116, 117, 120, 121, 122, 125, 128, 131, 134, 137, 138]
def h_X10_strikeCards : List Nat := [0, 500, 0, 500, 369, 568, 0, 0, 0, 0, 0, 500, 382, 0, 0, 500, 390, 0, 0, 0, 0, 342, 0, 0, 0, 0, 504, 0, 0, 500, 369, 1410, 0, 0, 1463, 0, 0, 500, 369, 0, 339, 0, 0, 0, 504, 1419, 0, 0, 0, 0, 0, 0, 0, 0, 0, 0, 504, 1468, 0, 0, 0, 0, 500, 369, 342, 0, 0, 0]
def k_X10_look : List aI := [aO 0 0 1, aO 0 1 0, aV 171 2 [10], aO 0 2 0, aO 15 8 2, aO 0 2 0, aC 1 (.int 6), aO 16 13 2, aO 38 3 0, aO 99 0 0, aO 99 0 0, aO 99 0 0, aO 99 0 0, aO 0 0 1, aO 19 10 1, aO 19 7 10, aO 0 1 0, aO 29 0 0, aO 1 3 1, aO 0 2 0, aT 36 0 [21, 24, 27, 30, 33], aO 0 3 1, aO 19 0 0, aO 39 0 0, aO 0 3 1, aO 19 0 1, aO 39 0 0, aO 0 3 1, aO 19 0 2, aO 39 0 0, aO 0 3 1, aV 3 1 [0], aO 39 0 0, aO 0 3 1, aV 2 1 [0], aO 39 0 0, aO 0 0 1, aO 19 10 1, aO 19 7 14, aC 0 (.int 1), aO 0 1 0, aV 90 3 [8], aO 39 0 0]
def p_X10_look : List Nat := [0, 1, 2, 5, 6, 9, 10, 12, 15, 18, 19, 21, 24, 25, 26, 29, 32, 33, 34, 35, 36, 72, 73, 76, 77, 78, 81, 82, 83, 86, 87, 88, 91, 92, 93, 96, 97, 98, 101, 104, 105, 106, 109, 110]
def h_X10_look : List Nat := [0, 0, 1087, 0, 0, 0, 0, 0, 10, 0, 0, 0, 0, 0, 500, 390, 0, 0, 0, 0, 0, 0, 336, 0, 0, 339, 0, 0, 342, 0, 0, 1476, 0, 0, 1106, 0, 0, 500, 397, 0, 0, 1480, 0]
def k_X10_hit : List aI := [aO 0 1 0, aO 15 13 2, aO 0 1 0, aO 0 0 1, aO 19 10 1, aO 19 7 14, aO 19 8 3, aO 16 13 3, aO 0 2 0, aO 15 13 2, aO 0 2 0, aC 1 (.int 6), aO 16 18 2, aO 38 3 0, aO 99 0 0, aO 99 0 0, aO 99 0 0, aO 99 0 0, aO 0 0 1, aO 19 10 1, aO 19 7 14, aO 0 1 0, aO 0 2 0, aV 88 3 [8], aO 39 0 0]
def p_X10_hit : List Nat := [0, 1, 4, 5, 6, 9, 12, 15, 18, 19, 22, 23, 25, 28, 31, 32, 35, 38, 39, 40, 43, 46, 47, 48, 51, 52]
def h_X10_hit : List Nat := [0, 0, 0, 0, 500, 397, 233, 0, 0, 0, 0, 0, 0, 24, 0, 0, 0, 0, 0, 500, 397, 0, 0, 712, 0]
def k_X10_left : List aI := [aO 0 0 1, aO 0 1 0, aV 170 2 [10], aC 0 (.int 0), aO 1 2 0, aC 0 (.int 0), aO 1 3 0, aO 0 3 0, aO 0 0 1, aO 19 10 1, aO 19 7 6, aO 16 29 3, aC 0 (.int 0), aO 1 4 0, aO 0 4 0, aC 1 (.int 10), aO 16 27 3, aO 0 0 1, aO 19 10 1, aO 0 1 0, aO 0 3 0, aO 0 4 0, aV 79 4 [7], aO 15 25 0, aN 2 1, aN 4 1, aO 17 14 0, aN 3 1, aO 17 7 0, aO 0 2 0, aO 39 0 0]
def p_X10_left : List Nat := [0, 1, 2, 5, 6, 7, 8, 9, 10, 11, 14, 17, 20, 21, 23, 25, 27, 30, 31, 34, 35, 36, 38, 41, 44, 47, 50, 53, 56, 59, 60, 61]
def h_X10_left : List Nat := [0, 0, 1022, 0, 0, 0, 0, 0, 0, 500, 382, 0, 0, 0, 0, 0, 0, 0, 500, 0, 0, 0, 1451, 0, 0, 0, 0, 0, 0, 0, 0]
def k_X10_rare : List aI := [aO 0 0 1, aO 0 1 0, aV 171 2 [10], aC 3 (.long 1), aO 1 3 2, aC 3 (.long 1), aO 1 5 2, aC 0 (.int 0), aO 1 7 0, aO 0 7 0, aC 1 (.int 10), aO 16 61 3, aO 0 0 1, aO 19 10 1, aO 0 1 0, aO 0 7 0, aV 75 3 [7], aO 1 8 0, aO 0 8 0, aC 0 (.int (-1)), aO 16 22 1, aO 17 59 0, aO 0 3 2, aC 0 (.int 1), aO 0 0 1, aO 19 10 1, aO 0 7 0, aO 0 8 0, aV 78 3 [7], aO 4 0 0, aO 6 0 0, aO 8 0 2, aO 1 3 2, aO 0 5 2, aC 0 (.int 2), aO 0 0 1, aO 19 10 1, aO 0 7 0, aV 77 2 [7], aO 4 0 0, aO 6 0 0, aO 8 0 2, aO 1 5 2, aO 0 3 2, aO 0 5 2, aV 162 2 [], aO 1 9 2, aO 0 9 2, aC 3 (.long 1), aO 10 0 0, aO 15 59 5, aO 0 3 2, aO 0 9 2, aO 9 0 0, aO 1 3 2, aO 0 5 2, aO 0 9 2, aO 9 0 0, aO 1 5 2, aN 7 1, aO 17 9 0, aO 0 2 0, aO 15 65 0, aO 0 5 2, aO 17 66 0, aO 0 3 2, aO 39 0 2]
def p_X10_rare : List Nat := [0, 1, 2, 5, 6, 7, 8, 10, 11, 13, 15, 17, 20, 21, 24, 25, 27, 30, 32, 34, 35, 38, 41, 42, 43, 44, 47, 49, 51, 54, 55, 56, 57, 58, 60, 61, 62, 65, 67, 70, 71, 72, 73, 75, 76, 78, 81, 83, 85, 86, 87, 90, 91, 93, 94, 95, 97, 99, 100, 102, 105, 108, 109, 112, 114, 117, 118, 119]
def h_X10_rare : List Nat := [0, 0, 1087, 0, 0, 0, 0, 0, 0, 0, 0, 0, 0, 500, 0, 0, 1507, 0, 0, 0, 0, 0, 0, 0, 0, 500, 0, 0, 1508, 0, 0, 0, 0, 0, 0, 0, 500, 0, 1512, 0, 0, 0, 0, 0, 0, 1516, 0, 0, 0, 0, 0, 0, 0, 0, 0, 0, 0, 0, 0, 0, 0, 0, 0, 0, 0, 0, 0]
def k_X10_commonDivisor : List aI := [aO 0 0 2, aO 1 4 2, aO 0 2 2, aO 1 6 2, aC 0 (.int 0), aO 1 8 0, aO 0 8 0, aC 2 (.int 200), aO 16 23 3, aO 0 6 2, aC 3 (.long 0), aO 10 0 0, aO 15 23 0, aO 0 4 2, aO 0 6 2, aO 9 0 1, aO 1 9 2, aO 0 6 2, aO 1 4 2, aO 0 9 2, aO 1 6 2, aN 8 1, aO 17 6 0, aO 0 4 2, aO 39 0 2]
def p_X10_commonDivisor : List Nat := [0, 1, 3, 4, 6, 7, 9, 11, 14, 17, 19, 20, 21, 24, 26, 28, 29, 31, 33, 35, 37, 39, 42, 45, 47, 48]
def h_X10_commonDivisor : List Nat := [0, 0, 0, 0, 0, 0, 0, 0, 0, 0, 0, 0, 0, 0, 0, 0, 0, 0, 0, 0, 0, 0, 0, 0, 0]
def k_X10_tear : List aI := [aO 0 1 0, aO 15 10 2, aO 0 1 0, aC 1 (.int 6), aO 0 0 1, aO 19 10 1, aO 19 7 14, aO 19 8 3, aV 336 2 [], aO 16 15 2, aO 38 3 0, aO 99 0 0, aO 99 0 0, aO 99 0 0, aO 99 0 0, aO 0 0 1, aV 165 1 [10], aO 0 1 0, aO 4 0 0, aO 1 3 0, aO 0 0 1, aO 19 10 1, aO 19 7 14, aO 0 3 0, aC 0 (.int 4), aO 0 0 1, aO 19 10 1, aO 19 7 14, aO 0 3 0, aC 0 (.int 4), aV 88 3 [8], aO 0 2 0, aO 4 0 5, aV 89 4 [8], aO 0 0 1, aO 19 10 1, aO 19 7 14, aO 0 3 0, aC 0 (.int 4), aV 88 3 [8], aO 39 0 0]
def p_X10_tear : List Nat := [0, 1, 4, 5, 7, 8, 11, 14, 17, 20, 23, 26, 27, 30, 33, 34, 35, 38, 39, 40, 41, 42, 45, 48, 49, 50, 51, 54, 57, 58, 59, 62, 63, 64, 67, 68, 71, 74, 75, 76, 79, 80]
def h_X10_tear : List Nat := [0, 0, 0, 0, 0, 500, 397, 233, 698, 0, 25, 0, 0, 0, 0, 0, 708, 0, 0, 0, 0, 500, 397, 0, 0, 0, 500, 397, 0, 0, 712, 0, 0, 1355, 0, 500, 397, 0, 0, 712, 0]
def k_X10_check : List aI := [aO 0 0 1, aV 165 1 [10], aO 1 1 0, aO 0 1 0, aO 1 2 0, aO 0 2 0, aO 0 0 1, aO 19 10 1, aO 19 7 14, aO 19 8 3, aO 16 30 3, aO 0 0 1, aO 19 10 1, aO 19 7 14, aO 0 2 0, aC 0 (.int 4), aV 88 3 [8], aO 0 0 1, aO 19 10 1, aO 19 7 14, aO 0 2 0, aC 1 (.int 6), aV 88 3 [8], aO 16 28 0, aO 0 2 0, aO 0 1 0, aO 4 0 1, aO 39 0 0, aN 2 1, aO 17 5 0, aC 0 (.int (-1)), aO 39 0 0]
def p_X10_check : List Nat := [0, 1, 4, 5, 6, 7, 8, 9, 12, 15, 18, 21, 22, 25, 28, 29, 30, 33, 34, 37, 40, 41, 43, 46, 49, 50, 51, 52, 53, 56, 59, 60, 61]
def h_X10_check : List Nat := [0, 708, 0, 0, 0, 0, 0, 500, 397, 233, 0, 0, 500, 397, 0, 0, 712, 0, 500, 397, 0, 0, 712, 0, 0, 0, 0, 0, 0, 0, 0, 0]
def k_X10_firstRow : List aI := [aC 0 (.int 0), aO 0 0 1, aO 19 10 1, aO 19 7 14, aO 19 8 3, aC 1 (.int 6), aO 4 0 1, aV 335 2 [], aO 39 0 0]
def p_X10_firstRow : List Nat := [0, 1, 2, 5, 8, 11, 13, 14, 17, 18]
def h_X10_firstRow : List Nat := [0, 0, 500, 397, 233, 0, 0, 699, 0]
def k_X10_image : List aI := [aO 0 0 1, aO 19 10 2, aO 0 0 1, aO 19 10 1, aV 83 2 [7], aO 0 0 1, aC 0 (.int 1), aO 20 10 3, aO 39 0 3]
def p_X10_image : List Nat := [0, 1, 4, 5, 8, 11, 12, 13, 16, 17]
def h_X10_image : List Nat := [0, 501, 0, 500, 724, 0, 0, 502, 0]
def k_X10_back : List aI := [aO 0 0 1, aO 19 10 3, aO 15 5 1, aC 0 (.int 0), aO 39 0 0, aO 0 0 1, aO 19 10 1, aO 0 0 1, aO 19 10 2, aV 83 2 [7], aO 0 0 1, aO 19 10 4, aV 17 1 [2], aC 0 (.int 1), aO 39 0 0]
def p_X10_back : List Nat := [0, 1, 4, 7, 8, 9, 10, 13, 14, 17, 20, 21, 24, 27, 28, 29]
def h_X10_back : List Nat := [0, 502, 0, 0, 0, 0, 500, 0, 501, 724, 0, 503, 768, 0, 0]
def k_X10_count : List aI := [aO 0 1 0, aT 56 0 [2, 6, 10, 14, 18, 22, 26, 34, 39, 44, 48, 52], aO 0 0 1, aO 19 10 1, aO 19 7 0, aO 39 0 0, aO 0 0 1, aO 19 10 1, aO 19 7 4, aO 39 0 0, aO 0 0 1, aO 19 10 1, aO 19 7 6, aO 39 0 0, aO 0 0 1, aO 19 10 1, aV 76 1 [7], aO 39 0 0, aO 0 0 1, aO 19 10 1, aO 19 7 5, aO 39 0 0, aO 0 0 1, aO 19 10 1, aO 19 7 7, aO 39 0 0, aO 0 0 1, aO 19 10 1, aO 0 0 1, aO 19 10 1, aO 19 7 0, aV 68 2 [7], aO 19 5 1, aO 39 0 0, aO 0 0 1, aO 19 10 1, aO 19 7 13, aO 19 8 3, aO 39 0 0, aO 0 0 1, aO 19 10 1, aO 19 7 14, aO 19 8 3, aO 39 0 0, aO 0 0 1, aO 19 10 1, aO 19 7 3, aO 39 0 0, aO 0 0 1, aO 19 10 1, aO 19 7 1, aO 39 0 0, aO 0 0 1, aO 19 10 1, aO 19 7 2, aO 39 0 0, aC 0 (.int (-1)), aO 39 0 0]
def p_X10_count : List Nat := [0, 1, 64, 65, 68, 71, 72, 73, 76, 79, 80, 81, 84, 87, 88, 89, 92, 95, 96, 97, 100, 103, 104, 105, 108, 111, 112, 113, 116, 117, 120, 123, 126, 129, 130, 131, 134, 137, 140, 141, 142, 145, 148, 151, 152, 153, 156, 159, 160, 161, 164, 167, 168, 169, 172, 175, 176, 177, 178]
def h_X10_count : List Nat := [0, 0, 0, 500, 369, 0, 0, 500, 378, 0, 0, 500, 382, 0, 0, 500, 776, 0, 0, 500, 380, 0, 0, 500, 384, 0, 0, 500, 0, 500, 369, 568, 199, 0, 0, 500, 395, 233, 0, 0, 500, 397, 233, 0, 0, 500, 376, 0, 0, 500, 372, 0, 0, 500, 374, 0, 0, 0]
def k_X10_needPrint : List aI := [aO 0 0 1, aO 19 10 1, aO 0 1 0, aV 69 2 [7], aO 15 10 1, aO 38 2 0, aO 99 0 0, aO 99 0 0, aO 99 0 0, aO 99 0 0, aO 39 0 3]
def p_X10_needPrint : List Nat := [0, 1, 4, 5, 8, 11, 14, 15, 18, 21, 22, 23]
def h_X10_needPrint : List Nat := [0, 500, 0, 595, 0, 2, 0, 0, 0, 0, 0]
def k_X10_needMark : List aI := [aO 0 0 1, aO 19 10 1, aO 0 1 0, aV 70 2 [7], aO 15 10 1, aO 38 2 0, aO 99 0 0, aO 99 0 0, aO 99 0 0, aO 99 0 0, aO 39 0 3]
def p_X10_needMark : List Nat := [0, 1, 4, 5, 8, 11, 14, 15, 18, 21, 22, 23]
def h_X10_needMark : List Nat := [0, 500, 0, 1026, 0, 8, 0, 0, 0, 0, 0]
def k_X10_needCard : List aI := [aO 0 0 1, aO 19 10 1, aO 0 1 0, aV 71 2 [7], aO 15 10 1, aO 38 2 0, aO 99 0 0, aO 99 0 0, aO 99 0 0, aO 99 0 0, aO 39 0 3]
def p_X10_needCard : List Nat := [0, 1, 4, 5, 8, 11, 14, 15, 18, 21, 22, 23]
def h_X10_needCard : List Nat := [0, 500, 0, 1091, 0, 13, 0, 0, 0, 0, 0]
def k_X10_needFinger : List aI := [aO 0 0 0, aV 72 1 [], aO 15 8 1, aO 38 2 0, aO 99 0 0, aO 99 0 0, aO 99 0 0, aO 99 0 0, aO 39 0 3]
def p_X10_needFinger : List Nat := [0, 1, 4, 7, 10, 11, 14, 17, 18, 19]
def h_X10_needFinger : List Nat := [0, 1096, 0, 14, 0, 0, 0, 0, 0]
def k_X10_needSaying : List aI := [aO 0 1 0, aO 15 5 2, aO 0 1 0, aC 1 (.int 6), aO 16 10 2, aO 38 2 0, aO 99 0 0, aO 99 0 0, aO 99 0 0, aO 99 0 0, aO 0 0 1, aO 0 2 0, aV 170 2 [10], aO 0 0 1, aO 0 3 0, aV 171 2 [10], aO 0 4 0, aV 172 1 [], aO 39 0 3]
def p_X10_needSaying : List Nat := [0, 1, 4, 5, 7, 10, 13, 14, 17, 20, 21, 22, 23, 26, 27, 28, 31, 33, 36, 37]
def h_X10_needSaying : List Nat := [0, 0, 0, 0, 0, 19, 0, 0, 0, 0, 0, 0, 1022, 0, 0, 1087, 0, 1093, 0]
def k_X10_needPoint : List aI := [aO 0 0 0, aO 0 0 0, aV 175 2 [], aO 15 18 0, aO 0 1 0, aO 0 1 0, aV 175 2 [], aO 15 18 0, aO 0 2 0, aO 15 18 2, aO 0 2 0, aC 0 (.int 3), aO 16 18 3, aO 0 3 0, aO 15 18 2, aO 0 3 0, aC 1 (.int 16), aO 16 23 2, aO 38 0 0, aO 99 0 0, aO 99 0 0, aO 99 0 0, aO 99 0 0, aO 39 0 3]
def p_X10_needPoint : List Nat := [0, 1, 2, 5, 8, 9, 10, 13, 16, 17, 20, 21, 22, 25, 26, 29, 30, 32, 35, 38, 39, 42, 45, 46, 47]
def h_X10_needPoint : List Nat := [0, 0, 1000, 0, 0, 0, 1000, 0, 0, 0, 0, 0, 0, 0, 0, 0, 0, 0, 5, 0, 0, 0, 0, 0]
def k_X10_isSpan : List aI := [aO 0 0 0, aO 15 10 2, aO 0 0 0, aO 0 1 0, aO 16 10 4, aO 0 1 0, aC 1 (.int 63), aO 16 10 4, aC 0 (.int 1), aO 17 11 0, aC 0 (.int 0), aO 39 0 0]
def p_X10_isSpan : List Nat := [0, 1, 4, 5, 6, 9, 10, 12, 15, 16, 19, 20, 21]
def h_X10_isSpan : List Nat := [0, 0, 0, 0, 0, 0, 0, 0, 0, 0, 0, 0]
def k_X10_copy : List aI := [aO 0 0 1, aC 0 (.int 0), aO 0 1 1, aC 0 (.int 0), aO 0 0 1, aO 22 0 0, aO 0 1 1, aO 22 0 0, aV 336 2 [], aO 36 0 0, aO 39 0 3]
def p_X10_copy : List Nat := [0, 1, 2, 3, 4, 5, 6, 7, 8, 11, 14, 15]
def h_X10_copy : List Nat := [0, 0, 0, 0, 0, 0, 0, 0, 698, 735, 0]
def k_X11_thrown : List aI := [aO 0 0 1, aO 19 11 0, aO 39 0 0]
def p_X11_thrown : List Nat := [0, 1, 4, 5]
def h_X11_thrown : List Nat := [0, 1537, 0]
def k_X11_throwsIf : List aI := [aO 0 1 0, aO 15 5 0, aO 0 0 1, aO 0 2 0, aO 20 11 0, aO 0 1 0, aO 39 0 0]
def p_X11_throwsIf : List Nat := [0, 1, 4, 5, 6, 9, 10, 11]
def h_X11_throwsIf : List Nat := [0, 0, 0, 0, 1537, 0, 0]
def k_X11_in : List aI := [aO 0 0 0, aO 0 1 0, aO 16 8 2, aO 0 0 0, aO 0 2 0, aO 16 8 4, aC 0 (.int 1), aO 17 9 0, aC 0 (.int 0), aO 39 0 0]
def p_X11_in : List Nat := [0, 1, 2, 5, 6, 7, 10, 11, 14, 15, 16]
def h_X11_in : List Nat := [0, 0, 0, 0, 0, 0, 0, 0, 0, 0]
def k_X11_init : List aI := [aO 0 0 1, aO 37 0 0, aO 0 0 1, aC 2 (.int 22176), aO 32 0 0, aO 21 11 1, aO 0 0 1, aC 2 (.int 21326), aO 32 0 0, aO 21 11 2, aO 0 0 1, aC 2 (.int 400), aO 32 2 0, aO 21 11 4, aO 0 0 1, aC 0 (.int (-1)), aO 20 11 10, aO 0 0 1, aC 0 (.int 5), aO 32 0 0, aO 21 11 11, aO 0 0 1, aC 1 (.int 64), aO 32 0 0, aO 21 11 12, aO 0 0 1, aC 1 (.int 8), aO 32 0 0, aO 21 11 18, aO 0 0 1, aC 1 (.int 8), aO 32 0 0, aO 21 11 19, aO 0 0 1, aC 1 (.int 16), aO 32 1 0, aO 21 11 21, aO 0 0 1, aC 1 (.int 16), aO 32 1 0, aO 21 11 22, aO 0 0 1, aC 0 (.int 4), aO 32 3 0, aO 21 11 24, aO 0 0 1, aC 0 (.int 5), aO 32 0 0, aO 21 11 25, aO 0 0 1, aC 2 (.int 400), aO 32 3 0, aO 21 11 26, aO 0 0 1, aC 1 (.int 16), aO 32 0 0, aO 21 11 27, aO 0 0 1, aO 19 11 1, aC 0 (.int 1), aC 0 (.int 1), aO 24 0 0, aO 0 0 1, aO 19 11 1, aC 0 (.int 2), aC 1 (.int 10), aO 24 0 0, aO 39 0 3]
def p_X11_init : List Nat := [0, 1, 4, 5, 8, 10, 13, 14, 17, 19, 22, 23, 26, 28, 31, 32, 33, 36, 37, 38, 40, 43, 44, 46, 48, 51, 52, 54, 56, 59, 60, 62, 64, 67, 68, 70, 72, 75, 76, 78, 80, 83, 84, 85, 87, 90, 91, 92, 94, 97, 98, 101, 103, 106, 107, 109, 111, 114, 115, 118, 119, 120, 121, 122, 125, 126, 128, 129, 130]
def h_X11_init : List Nat := [0, 1536, 0, 0, 175, 1538, 0, 0, 175, 1539, 0, 0, 872, 1541, 0, 0, 1547, 0, 0, 175, 1548, 0, 0, 175, 1549, 0, 0, 175, 1555, 0, 0, 175, 1556, 0, 0, 494, 1558, 0, 0, 494, 1559, 0, 0, 1622, 1561, 0, 0, 175, 1562, 0, 0, 1622, 1563, 0, 0, 175, 1564, 0, 1538, 0, 0, 0, 0, 1538, 0, 0, 0, 0]
def k_X11_today : List aI := [aO 0 0 1, aO 19 11 1, aC 0 (.int 0), aO 23 0 0, aO 39 0 0]
def p_X11_today : List Nat := [0, 1, 4, 5, 6, 7]
def h_X11_today : List Nat := [0, 1538, 0, 0, 0]
def k_X11_image : List aI := [aO 0 0 1, aC 0 (.int 0), aO 20 11 0, aC 0 (.int 0), aO 1 1 0, aO 0 1 0, aC 2 (.int 21326), aO 16 18 3, aO 0 0 1, aO 19 11 2, aO 0 1 0, aO 0 0 1, aO 19 11 1, aO 0 1 0, aO 23 0 0, aO 24 0 0, aN 1 1, aO 17 5 0, aO 0 0 1, aC 0 (.int 1), aO 20 11 3, aO 39 0 3]
def p_X11_image : List Nat := [0, 1, 2, 5, 6, 7, 8, 11, 14, 15, 18, 19, 20, 23, 24, 25, 26, 29, 32, 33, 34, 37, 38]
def h_X11_image : List Nat := [0, 0, 1537, 0, 0, 0, 0, 0, 0, 1539, 0, 0, 1538, 0, 0, 0, 0, 0, 0, 0, 1540, 0]
def k_X11_back : List aI := [aO 0 0 1, aC 0 (.int 0), aO 20 11 0, aO 0 0 1, aO 19 11 3, aO 15 8 1, aC 0 (.int 0), aO 39 0 0, aC 0 (.int 0), aO 1 1 0, aO 0 1 0, aC 2 (.int 21326), aO 16 23 3, aO 0 0 1, aO 19 11 1, aO 0 1 0, aO 0 0 1, aO 19 11 2, aO 0 1 0, aO 23 0 0, aO 24 0 0, aN 1 1, aO 17 10 0, aC 0 (.int 1), aO 39 0 0]
def p_X11_back : List Nat := [0, 1, 2, 5, 6, 9, 12, 13, 14, 15, 16, 17, 20, 23, 24, 27, 28, 29, 32, 33, 34, 35, 38, 41, 42, 43]
def h_X11_back : List Nat := [0, 0, 1537, 0, 1540, 0, 0, 0, 0, 0, 0, 0, 0, 0, 1538, 0, 0, 1539, 0, 0, 0, 0, 0, 0, 0]
def k_X11_feed : List aI := [aO 0 0 1, aC 0 (.int 0), aO 20 11 0, aO 0 0 1, aO 19 11 5, aC 1 (.int 20), aO 4 0 0, aC 2 (.int 400), aO 16 11 5, aC 0 (.int (-1)), aO 39 0 0, aO 0 0 1, aO 19 11 11, aC 0 (.int 0), aO 0 1 0, aO 24 0 0, aO 0 0 1, aO 19 11 11, aC 0 (.int 1), aO 0 2 0, aO 24 0 0, aO 0 0 1, aO 19 11 11, aC 0 (.int 2), aO 0 3 0, aO 24 0 0, aO 0 0 1, aO 19 11 11, aC 0 (.int 3), aO 0 4 0, aO 24 0 0, aO 0 0 1, aO 19 11 11, aC 0 (.int 4), aO 0 5 0, aO 24 0 0, aC 0 (.int 0), aO 1 6 0, aO 0 6 0, aC 1 (.int 20), aO 16 65 3, aO 0 0 1, aO 19 11 4, aO 0 0 1, aO 19 11 5, aO 0 6 0, aO 4 0 0, aO 0 0 1, aO 19 11 11, aO 0 6 0, aC 0 (.int 4), aO 5 0 0, aO 23 0 0, aC 1 (.int 24), aC 1 (.int 8), aO 0 6 0, aC 0 (.int 4), aO 5 0 1, aO 4 0 2, aO 4 0 1, aO 4 0 7, aO 6 0 1, aO 26 0 0, aN 6 1, aO 17 38 0, aO 0 0 1, aO 12 0 0, aO 19 11 5, aC 1 (.int 20), aO 4 0 0, aO 20 11 5, aO 0 0 1, aO 19 11 5, aO 39 0 0]
def p_X11_feed : List Nat := [0, 1, 2, 5, 6, 9, 11, 12, 15, 18, 19, 20, 21, 24, 25, 26, 27, 28, 31, 32, 33, 34, 35, 38, 39, 40, 41, 42, 45, 46, 48, 49, 50, 53, 54, 56, 57, 58, 60, 62, 64, 67, 68, 71, 72, 75, 77, 78, 79, 82, 84, 85, 86, 87, 89, 91, 93, 94, 95, 96, 97, 98, 99, 100, 103, 106, 107, 108, 111, 113, 114, 117, 118, 121, 122]
def h_X11_feed : List Nat := [0, 0, 1537, 0, 1542, 0, 0, 0, 0, 0, 0, 0, 1548, 0, 0, 0, 0, 1548, 0, 0, 0, 0, 1548, 0, 0, 0, 0, 1548, 0, 0, 0, 0, 1548, 0, 0, 0, 0, 0, 0, 0, 0, 0, 1541, 0, 1542, 0, 0, 0, 1548, 0, 0, 0, 0, 0, 0, 0, 0, 0, 0, 0, 0, 0, 0, 0, 0, 0, 0, 1542, 0, 0, 1542, 0, 1542, 0]
def k_X11_end : List aI := [aO 0 0 1, aC 0 (.int 0), aO 20 11 0, aO 0 1 0, aO 15 9 2, aO 0 1 0, aO 0 0 1, aO 19 11 5, aO 16 11 5, aC 0 (.int 0), aO 39 0 0, aO 0 0 1, aO 0 1 0, aO 20 11 5, aC 0 (.int 1), aO 39 0 0]
def p_X11_end : List Nat := [0, 1, 2, 5, 6, 9, 10, 11, 14, 17, 18, 19, 20, 21, 24, 25, 26]
def h_X11_end : List Nat := [0, 0, 1537, 0, 0, 0, 0, 1542, 0, 0, 0, 0, 0, 1542, 0, 0]
def k_X11_uses : List aI := [aO 0 0 1, aC 0 (.int 0), aO 20 11 0, aO 0 0 1, aO 0 0 1, aO 19 11 5, aO 20 11 7, aO 0 0 1, aC 0 (.int 0), aO 20 11 5, aO 0 0 1, aC 0 (.int 0), aO 20 11 6, aO 39 0 3]
def p_X11_uses : List Nat := [0, 1, 2, 5, 6, 7, 10, 13, 14, 15, 18, 19, 20, 23, 24]
def h_X11_uses : List Nat := [0, 0, 1537, 0, 0, 1542, 1544, 0, 0, 1542, 0, 0, 1543, 0]
def k_X11_isAt : List aI := [aO 0 0 1, aO 19 11 6, aO 0 0 1, aO 19 11 7, aO 16 21 3, aO 0 0 1, aO 19 11 4, aO 0 0 1, aO 19 11 6, aO 25 0 0, aO 0 1 0, aO 16 21 2, aO 0 0 1, aO 19 11 4, aO 0 0 1, aO 19 11 6, aO 25 0 0, aO 0 2 0, aO 16 21 4, aC 0 (.int 1), aO 17 22 0, aC 0 (.int 0), aO 39 0 0]
def p_X11_isAt : List Nat := [0, 1, 4, 5, 8, 11, 12, 15, 16, 19, 20, 21, 24, 25, 28, 29, 32, 33, 34, 37, 38, 41, 42, 43]
def h_X11_isAt : List Nat := [0, 1543, 0, 1544, 0, 0, 1541, 0, 1543, 0, 0, 0, 0, 1541, 0, 1543, 0, 0, 0, 0, 0, 0, 0]
def k_X11_blanks : List aI := [aO 0 0 1, aC 1 (.int 32), aC 1 (.int 32), aV 187 3 [11], aO 15 12 0, aO 0 0 1, aO 12 0 0, aO 19 11 6, aC 0 (.int 1), aO 4 0 0, aO 20 11 6, aO 17 0 0, aO 0 0 1, aO 0 0 1, aO 19 11 6, aO 20 11 8, aO 39 0 3]
def p_X11_blanks : List Nat := [0, 1, 3, 5, 8, 11, 12, 13, 16, 17, 18, 21, 24, 25, 26, 29, 32, 33]
def h_X11_blanks : List Nat := [0, 0, 0, 1663, 0, 0, 0, 1543, 0, 0, 1543, 0, 0, 0, 1543, 1545, 0]
def k_X11_word : List aI := [aO 0 0 1, aV 188 1 [11], aO 0 0 1, aC 1 (.int 97), aC 1 (.int 122), aV 187 3 [11], aO 15 14 0, aO 0 0 1, aO 12 0 0, aO 19 11 6, aC 0 (.int 1), aO 4 0 0, aO 20 11 6, aO 17 2 0, aO 39 0 3]
def p_X11_word : List Nat := [0, 1, 4, 5, 7, 9, 12, 15, 16, 17, 20, 21, 22, 25, 28, 29]
def h_X11_word : List Nat := [0, 1659, 0, 0, 0, 1663, 0, 0, 0, 1543, 0, 0, 1543, 0, 0]
def k_X11_isWord : List aI := [aO 0 0 1, aO 19 11 6, aO 0 0 1, aO 19 11 8, aO 4 0 1, aO 0 1 1, aV 337 1 [99], aO 16 10 1, aC 0 (.int 1), aO 17 11 0, aC 0 (.int 0), aO 1 2 0, aC 0 (.int 0), aO 1 3 0, aO 0 2 0, aO 15 37 0, aO 0 3 0, aO 0 1 1, aV 337 1 [99], aO 16 37 3, aO 0 0 1, aO 19 11 4, aO 0 0 1, aO 19 11 8, aO 0 3 0, aO 4 0 0, aO 25 0 0, aO 0 1 1, aO 0 3 0, aV 339 2 [99], aO 16 33 1, aC 0 (.int 1), aO 17 34 0, aC 0 (.int 0), aO 1 2 0, aN 3 1, aO 17 14 0, aO 0 2 0, aO 39 0 0]
def p_X11_isWord : List Nat := [0, 1, 4, 5, 8, 9, 10, 13, 16, 17, 20, 21, 22, 23, 24, 25, 28, 29, 30, 33, 36, 37, 40, 41, 44, 45, 46, 47, 48, 49, 52, 55, 56, 59, 60, 61, 64, 67, 68, 69]
def h_X11_isWord : List Nat := [0, 1543, 0, 1545, 0, 0, 1904, 0, 0, 0, 0, 0, 0, 0, 0, 0, 0, 0, 1904, 0, 0, 1541, 0, 1545, 0, 0, 0, 0, 0, 1905, 0, 0, 0, 0, 0, 0, 0, 0, 0]
def k_X11_passes : List aI := [aO 0 0 1, aV 189 1 [11], aO 0 0 1, aO 0 1 1, aV 190 2 [11], aO 15 8 0, aC 0 (.int 1), aO 39 0 0, aO 0 0 1, aO 0 0 1, aO 19 11 8, aO 20 11 6, aC 0 (.int 0), aO 39 0 0]
def p_X11_passes : List Nat := [0, 1, 4, 5, 6, 9, 12, 13, 14, 15, 16, 19, 22, 23, 24]
def h_X11_passes : List Nat := [0, 1889, 0, 0, 1900, 0, 0, 0, 0, 0, 1545, 1543, 0, 0]
def k_X11_sign : List aI := [aO 0 0 1, aV 188 1 [11], aO 0 0 1, aO 0 1 0, aO 0 1 0, aV 187 3 [11], aO 15 9 1, aC 0 (.int 0), aO 39 0 0, aO 0 0 1, aO 12 0 0, aO 19 11 6, aC 0 (.int 1), aO 4 0 0, aO 20 11 6, aC 0 (.int 1), aO 39 0 0]
def p_X11_sign : List Nat := [0, 1, 4, 5, 6, 7, 10, 13, 14, 15, 16, 17, 20, 21, 22, 25, 26, 27]
def h_X11_sign : List Nat := [0, 1659, 0, 0, 0, 1663, 0, 0, 0, 0, 0, 1543, 0, 0, 1543, 0, 0]
def k_X11_number : List aI := [aO 0 0 1, aV 188 1 [11], aC 0 (.int 0), aO 1 3 0, aO 0 0 1, aC 1 (.int 48), aC 1 (.int 57), aV 187 3 [11], aO 15 37 0, aO 0 0 1, aO 19 11 6, aO 0 0 1, aO 19 11 8, aO 4 0 1, aC 0 (.int 4), aO 16 28 3, aC 1 (.int 10), aO 0 3 0, aO 4 0 2, aO 0 0 1, aO 19 11 4, aO 0 0 1, aO 19 11 6, aO 25 0 0, aO 4 0 0, aC 1 (.int 48), aO 4 0 1, aO 17 29 0, aO 0 3 0, aO 1 3 0, aO 0 0 1, aO 12 0 0, aO 19 11 6, aC 0 (.int 1), aO 4 0 0, aO 20 11 6, aO 17 4 0, aO 0 0 1, aO 19 11 6, aO 0 0 1, aO 19 11 8, aO 16 55 0, aO 0 0 1, aO 19 11 6, aO 0 0 1, aO 19 11 8, aO 4 0 1, aC 0 (.int 4), aO 16 55 4, aO 0 3 0, aO 0 1 0, aO 16 55 2, aO 0 3 0, aO 0 2 0, aO 16 57 5, aC 0 (.int (-1)), aO 17 58 0, aO 0 3 0, aO 39 0 0]
def p_X11_number : List Nat := [0, 1, 4, 5, 6, 7, 9, 11, 14, 17, 18, 21, 22, 25, 26, 27, 30, 32, 33, 34, 35, 38, 39, 42, 43, 44, 46, 47, 50, 51, 52, 53, 54, 57, 58, 59, 62, 65, 66, 69, 70, 73, 76, 77, 80, 81, 84, 85, 86, 89, 90, 91, 94, 95, 96, 99, 100, 103, 104, 105]
def h_X11_number : List Nat := [0, 1659, 0, 0, 0, 0, 0, 1663, 0, 0, 1543, 0, 1545, 0, 0, 0, 0, 0, 0, 0, 1541, 0, 1543, 0, 0, 0, 0, 0, 0, 0, 0, 0, 1543, 0, 0, 1543, 0, 0, 1543, 0, 1545, 0, 0, 1543, 0, 1545, 0, 0, 0, 0, 0, 0, 0, 0, 0, 0, 0, 0, 0]
def k_X11_fault : List aI := [aO 0 0 1, aC 0 (.int 0), aO 20 11 0, aO 0 0 1, aO 19 11 10, aO 39 0 0]
def p_X11_fault : List Nat := [0, 1, 2, 5, 6, 9, 10]
def h_X11_fault : List Nat := [0, 0, 1537, 0, 1547, 0]
def k_X11_printAt : List aI := [aC 0 (.int 5), aC 1 (.int 97), aO 0 0 0, aO 4 0 2, aO 4 0 0, aO 39 0 0]
def p_X11_printAt : List Nat := [0, 1, 3, 4, 5, 6, 7]
def h_X11_printAt : List Nat := [0, 0, 0, 0, 0, 0]
def k_X11_noPrint : List aI := [aO 0 1 0, aC 0 (.int 0), aO 0 0 1, aO 19 11 1, aC 0 (.int 4), aO 23 0 0, aC 0 (.int 1), aO 4 0 1, aV 179 3 [], aO 15 12 1, aC 0 (.int 1), aO 17 13 0, aC 0 (.int 0), aO 39 0 0]
def p_X11_noPrint : List Nat := [0, 1, 2, 3, 6, 7, 8, 9, 10, 13, 16, 17, 20, 21, 22]
def h_X11_noPrint : List Nat := [0, 0, 0, 1538, 0, 0, 0, 0, 1682, 0, 0, 0, 0, 0]
def k_X11_readField : List aI := [aC 0 (.int 0), aO 1 1 0, aO 0 1 0, aC 1 (.int 64), aO 16 57 3, aO 0 1 0, aO 15 17 5, aO 0 1 0, aC 1 (.int 8), aO 5 0 1, aO 15 17 1, aO 0 0 1, aC 1 (.int 47), aV 192 2 [11], aO 15 17 1, aC 0 (.int 0), aO 39 0 0, aO 0 0 1, aV 188 1 [11], aO 0 0 1, aC 1 (.int 48), aC 1 (.int 55), aV 187 3 [11], aO 15 31 1, aO 0 0 1, aC 1 (.int 46), aC 1 (.int 46), aV 187 3 [11], aO 15 31 1, aC 0 (.int 0), aO 39 0 0, aO 0 0 1, aO 19 11 12, aO 0 1 0, aO 0 0 1, aC 1 (.int 46), aC 1 (.int 46), aV 187 3 [11], aO 15 41 0, aC 0 (.int (-1)), aO 17 48 0, aO 0 0 1, aO 19 11 4, aO 0 0 1, aO 19 11 6, aO 25 0 0, aC 1 (.int 48), aO 4 0 1, aO 24 0 0, aO 0 0 1, aO 12 0 0, aO 19 11 6, aC 0 (.int 1), aO 4 0 0, aO 20 11 6, aN 1 1, aO 17 2 0, aO 0 0 1, aV 188 1 [11], aO 0 0 1, aO 19 11 6, aO 0 0 1, aO 19 11 7, aO 16 66 1, aC 0 (.int 1), aO 17 67 0, aC 0 (.int 0), aO 39 0 0]
def p_X11_readField : List Nat := [0, 1, 2, 3, 5, 8, 9, 12, 13, 15, 16, 19, 20, 22, 25, 28, 29, 30, 31, 34, 35, 37, 39, 42, 45, 46, 48, 50, 53, 56, 57, 58, 59, 62, 63, 64, 66, 68, 71, 74, 75, 78, 79, 82, 83, 86, 87, 89, 90, 91, 92, 93, 96, 97, 98, 101, 104, 107, 108, 111, 112, 115, 116, 119, 122, 123, 126, 127, 128]
def h_X11_readField : List Nat := [0, 0, 0, 0, 0, 0, 0, 0, 0, 0, 0, 0, 0, 1655, 0, 0, 0, 0, 1659, 0, 0, 0, 1663, 0, 0, 0, 0, 1663, 0, 0, 0, 0, 1549, 0, 0, 0, 0, 1663, 0, 0, 0, 0, 1541, 0, 1543, 0, 0, 0, 0, 0, 0, 1543, 0, 0, 1543, 0, 0, 0, 1659, 0, 1543, 0, 1544, 0, 0, 0, 0, 0]
def k_X11_print : List aI := [aO 0 0 1, aV 186 1 [11], aO 0 0 1, aV 197 1 [11], aO 1 1 0, aO 0 0 1, aO 0 1 0, aO 15 10 0, aC 0 (.int (-1)), aO 17 12 0, aO 0 0 1, aO 19 11 8, aO 20 11 10, aO 0 0 1, aO 0 1 0, aO 15 18 1, aC 0 (.int 1), aO 17 19 0, aC 0 (.int 0), aC 0 (.int 1), aV 178 3 [11], aO 15 35 1, aO 0 0 1, aO 0 0 1, aO 19 11 1, aC 0 (.int 4), aO 23 0 0, aC 1 (.int 60), aO 16 31 1, aC 0 (.int 1), aO 17 32 0, aC 0 (.int 0), aC 0 (.int 2), aV 178 3 [11], aO 15 37 0, aC 0 (.int 0), aO 39 0 0, aO 0 0 1, aO 19 11 1, aC 0 (.int 4), aO 23 0 0, aO 1 2 0, aO 0 0 1, aO 19 11 1, aC 0 (.int 4), aO 12 0 1, aO 23 0 0, aC 0 (.int 1), aO 4 0 0, aO 24 0 0, aC 0 (.int 0), aO 1 3 0, aO 0 3 0, aC 1 (.int 64), aO 16 68 3, aO 0 0 1, aO 19 11 1, aO 0 2 0, aV 195 1 [], aO 0 3 0, aO 4 0 0, aO 0 0 1, aO 19 11 12, aO 0 3 0, aO 23 0 0, aO 24 0 0, aN 3 1, aO 17 52 0, aO 0 2 0, aO 39 0 0]
def p_X11_print : List Nat := [0, 1, 4, 5, 8, 9, 10, 11, 14, 15, 18, 19, 22, 25, 26, 27, 30, 31, 34, 35, 36, 39, 42, 43, 44, 47, 48, 49, 51, 54, 55, 58, 59, 60, 63, 66, 67, 68, 69, 72, 73, 74, 75, 76, 79, 80, 81, 82, 83, 84, 85, 86, 87, 88, 90, 93, 94, 97, 98, 101, 102, 103, 104, 107, 108, 109, 110, 113, 116, 117, 118]
def h_X11_print : List Nat := [0, 1647, 0, 1651, 0, 0, 0, 0, 0, 0, 0, 1545, 1547, 0, 0, 0, 0, 0, 0, 0, 1667, 0, 0, 0, 1538, 0, 0, 0, 0, 0, 0, 0, 0, 1667, 0, 0, 0, 0, 1538, 0, 0, 0, 0, 1538, 0, 0, 0, 0, 0, 0, 0, 0, 0, 0, 0, 0, 1538, 0, 1671, 0, 0, 0, 1549, 0, 0, 0, 0, 0, 0, 0]
def k_X11_field : List aI := [aO 0 0 1, aC 0 (.int 0), aO 20 11 0, aO 0 0 1, aO 0 0 1, aO 0 1 0, aV 196 2 [11], aO 15 13 1, aO 0 2 0, aC 0 (.int 0), aC 1 (.int 63), aV 179 3 [], aO 15 15 1, aC 0 (.int 1), aO 17 16 0, aC 0 (.int 0), aC 0 (.int 1), aV 178 3 [11], aO 15 21 0, aC 0 (.int 0), aO 17 28 0, aO 0 0 1, aO 19 11 1, aO 0 1 0, aV 195 1 [], aO 0 2 0, aO 4 0 0, aO 23 0 0, aO 39 0 0]
def p_X11_field : List Nat := [0, 1, 2, 5, 6, 7, 8, 11, 14, 15, 16, 18, 21, 24, 25, 28, 29, 30, 33, 36, 37, 40, 41, 44, 45, 48, 49, 50, 51, 52]
def h_X11_field : List Nat := [0, 0, 1537, 0, 0, 0, 1678, 0, 0, 0, 0, 1682, 0, 0, 0, 0, 0, 1667, 0, 0, 0, 0, 1538, 0, 1671, 0, 0, 0, 0]
def k_X11_cellOf : List aI := [aO 0 0 1, aO 19 11 1, aO 0 1 0, aV 195 1 [], aC 1 (.int 8), aO 0 3 0, aO 4 0 2, aO 4 0 0, aO 0 2 0, aO 4 0 0, aO 23 0 0, aO 39 0 0]
def p_X11_cellOf : List Nat := [0, 1, 4, 5, 8, 10, 11, 12, 13, 14, 15, 16, 17]
def h_X11_cellOf : List Nat := [0, 1538, 0, 1671, 0, 0, 0, 0, 0, 0, 0, 0]
def k_X11_around : List aI := [aO 0 0 1, aO 0 1 0, aO 0 4 0, aO 15 7 0, aO 0 4 0, aC 0 (.int 3), aO 16 11 1, aO 0 2 0, aC 0 (.int 1), aO 4 0 1, aO 17 12 0, aO 0 2 0, aO 0 4 0, aC 0 (.int 2), aO 16 19 3, aO 0 3 0, aC 0 (.int 1), aO 4 0 1, aO 17 20 0, aO 0 3 0, aV 200 4 [11], aO 39 0 0]
def p_X11_around : List Nat := [0, 1, 2, 4, 7, 9, 10, 13, 14, 15, 16, 19, 20, 22, 23, 26, 27, 28, 29, 32, 33, 36, 37]
def h_X11_around : List Nat := [0, 0, 0, 0, 0, 0, 0, 0, 0, 0, 0, 0, 0, 0, 0, 0, 0, 0, 0, 0, 1697, 0]
def k_X11_turnOf : List aI := [aO 0 2 0, aC 1 (.int 7), aO 5 0 1, aC 0 (.int 1), aO 4 0 0, aO 1 3 0, aO 0 2 0, aC 1 (.int 7), aO 5 0 0, aC 0 (.int 1), aO 4 0 0, aO 1 4 0, aC 0 (.int 0), aO 1 5 0, aC 0 (.int 0), aO 1 6 0, aO 0 6 0, aC 0 (.int 4), aO 16 67 3, aO 0 0 1, aO 0 1 0, aO 0 3 0, aO 0 4 0, aO 0 6 0, aV 201 5 [11], aO 1 7 0, aO 0 0 1, aO 0 1 0, aO 0 3 0, aO 0 4 0, aO 0 6 0, aC 0 (.int 1), aO 4 0 0, aC 0 (.int 4), aO 5 0 1, aV 201 5 [11], aO 1 8 0, aO 0 7 0, aO 15 41 2, aO 0 8 0, aO 15 43 3, aC 0 (.int (-1)), aO 39 0 0, aO 0 8 0, aO 0 7 0, aO 4 0 1, aC 1 (.int 8), aV 333 2 [], aO 1 9 0, aO 0 9 0, aC 0 (.int 4), aO 16 54 1, aC 0 (.int (-1)), aO 39 0 0, aO 0 5 0, aO 0 9 0, aC 0 (.int 4), aO 16 62 5, aO 0 9 0, aC 1 (.int 8), aO 4 0 1, aO 17 63 0, aO 0 9 0, aO 4 0 0, aO 1 5 0, aN 6 1, aO 17 16 0, aO 0 5 0, aO 39 0 0]
def p_X11_turnOf : List Nat := [0, 1, 3, 4, 5, 6, 7, 8, 10, 11, 12, 13, 15, 16, 18, 19, 21, 23, 24, 27, 28, 29, 30, 32, 34, 37, 39, 40, 41, 42, 44, 46, 47, 48, 49, 50, 53, 55, 57, 60, 62, 65, 66, 67, 69, 71, 72, 74, 77, 79, 81, 82, 85, 86, 87, 89, 91, 92, 95, 97, 99, 100, 103, 105, 106, 108, 111, 114, 116, 117]
def h_X11_turnOf : List Nat := [0, 0, 0, 0, 0, 0, 0, 0, 0, 0, 0, 0, 0, 0, 0, 0, 0, 0, 0, 0, 0, 0, 0, 0, 1693, 0, 0, 0, 0, 0, 0, 0, 0, 0, 0, 1693, 0, 0, 0, 0, 0, 0, 0, 0, 0, 0, 0, 1701, 0, 0, 0, 0, 0, 0, 0, 0, 0, 0, 0, 0, 0, 0, 0, 0, 0, 0, 0, 0, 0]
def k_X11_turn : List aI := [aO 0 0 1, aC 0 (.int 0), aO 20 11 0, aO 0 0 1, aO 0 0 1, aO 0 1 0, aV 196 2 [11], aO 15 13 1, aO 0 2 0, aC 0 (.int 0), aC 1 (.int 48), aV 179 3 [], aO 15 15 1, aC 0 (.int 1), aO 17 16 0, aC 0 (.int 0), aC 0 (.int 1), aV 178 3 [11], aO 15 21 0, aC 0 (.int 0), aO 17 25 0, aO 0 0 1, aO 0 1 0, aO 0 2 0, aV 202 3 [11], aO 39 0 0]
def p_X11_turn : List Nat := [0, 1, 2, 5, 6, 7, 8, 11, 14, 15, 16, 18, 21, 24, 25, 28, 29, 30, 33, 36, 37, 40, 41, 42, 43, 46, 47]
def h_X11_turn : List Nat := [0, 0, 1537, 0, 0, 0, 1678, 0, 0, 0, 0, 1682, 0, 0, 0, 0, 0, 1667, 0, 0, 0, 0, 0, 0, 1689, 0]
def k_X11_singularOf : List aI := [aC 0 (.int 0), aO 1 4 0, aC 0 (.int 0), aO 1 5 0, aO 0 5 0, aC 1 (.int 49), aO 16 22 3, aO 0 0 1, aO 0 1 0, aO 0 5 0, aV 202 3 [11], aO 0 3 0, aO 16 14 0, aO 17 20 0, aO 0 4 0, aO 0 2 0, aO 16 19 1, aO 0 5 0, aO 39 0 0, aN 4 1, aN 5 1, aO 17 4 0, aC 0 (.int (-1)), aO 39 0 0]
def p_X11_singularOf : List Nat := [0, 1, 3, 4, 6, 8, 10, 13, 14, 15, 17, 20, 21, 24, 27, 29, 30, 33, 35, 36, 39, 42, 45, 46, 47]
def h_X11_singularOf : List Nat := [0, 0, 0, 0, 0, 0, 0, 0, 0, 0, 1689, 0, 0, 0, 0, 0, 0, 0, 0, 0, 0, 0, 0, 0]
def k_X11_singular : List aI := [aO 0 0 1, aC 0 (.int 0), aO 20 11 0, aO 0 0 1, aO 0 0 1, aO 0 1 0, aV 196 2 [11], aC 0 (.int 1), aV 178 3 [11], aO 15 12 0, aC 0 (.int 0), aO 17 25 0, aO 0 2 0, aO 15 16 3, aC 0 (.int (-1)), aO 17 25 0, aO 0 0 1, aO 0 1 0, aO 0 2 0, aO 0 3 0, aO 15 23 0, aC 1 (.int (-8)), aO 17 24 0, aC 1 (.int 8), aV 204 4 [11], aO 39 0 0]
def p_X11_singular : List Nat := [0, 1, 2, 5, 6, 7, 8, 11, 12, 15, 18, 19, 22, 23, 26, 27, 30, 31, 32, 33, 34, 37, 39, 42, 44, 47, 48]
def h_X11_singular : List Nat := [0, 0, 1537, 0, 0, 0, 1678, 0, 1667, 0, 0, 0, 0, 0, 0, 0, 0, 0, 0, 0, 0, 0, 0, 0, 1708, 0]
def k_X11_patternOf : List aI := [aC 0 (.int 0), aO 1 2 0, aC 0 (.int 0), aO 1 3 0, aC 0 (.int 0), aO 1 4 0, aO 0 4 0, aC 1 (.int 49), aO 16 34 3, aO 0 0 1, aO 0 1 0, aO 0 4 0, aV 202 3 [11], aO 1 5 0, aO 0 2 0, aO 0 5 0, aC 1 (.int 8), aO 16 20 1, aC 0 (.int 1), aO 17 21 0, aC 0 (.int 0), aO 4 0 0, aO 1 2 0, aO 0 3 0, aO 0 5 0, aC 1 (.int (-8)), aO 16 29 1, aC 0 (.int 1), aO 17 30 0, aC 0 (.int 0), aO 4 0 0, aO 1 3 0, aN 4 1, aO 17 6 0, aO 0 2 0, aO 15 40 1, aO 0 3 0, aO 15 40 1, aC 0 (.int 0), aO 39 0 0, aO 0 2 0, aC 0 (.int 2), aO 16 48 1, aO 0 3 0, aC 0 (.int 2), aO 16 48 1, aC 0 (.int 4), aO 39 0 0, aO 0 2 0, aC 0 (.int 1), aO 16 54 1, aO 0 3 0, aC 0 (.int 1), aO 16 56 0, aC 0 (.int 5), aO 39 0 0, aO 0 0 1, aO 0 1 0, aC 0 (.int 0), aC 1 (.int 8), aV 204 4 [11], aC 1 (.int 7), aO 5 0 1, aO 1 4 0, aO 0 0 1, aO 0 1 0, aC 0 (.int 0), aC 1 (.int (-8)), aV 204 4 [11], aC 1 (.int 7), aO 5 0 1, aO 1 5 0, aO 0 4 0, aO 0 5 0, aO 16 77 1, aC 0 (.int 1), aO 17 83 0, aO 0 5 0, aO 0 4 0, aO 16 82 5, aC 0 (.int 2), aO 17 83 0, aC 0 (.int 3), aO 39 0 0]
def p_X11_patternOf : List Nat := [0, 1, 2, 3, 4, 5, 7, 9, 11, 14, 15, 16, 18, 21, 23, 24, 26, 28, 31, 32, 35, 36, 37, 38, 39, 41, 43, 46, 47, 50, 51, 52, 53, 56, 59, 60, 63, 64, 67, 68, 69, 70, 71, 74, 75, 76, 79, 80, 81, 82, 83, 86, 87, 88, 91, 92, 93, 94, 95, 96, 98, 101, 103, 104, 106, 107, 108, 109, 111, 114, 116, 117, 119, 121, 123, 126, 127, 130, 132, 134, 137, 138, 141, 142, 143]
def h_X11_patternOf : List Nat := [0, 0, 0, 0, 0, 0, 0, 0, 0, 0, 0, 0, 1689, 0, 0, 0, 0, 0, 0, 0, 0, 0, 0, 0, 0, 0, 0, 0, 0, 0, 0, 0, 0, 0, 0, 0, 0, 0, 0, 0, 0, 0, 0, 0, 0, 0, 0, 0, 0, 0, 0, 0, 0, 0, 0, 0, 0, 0, 0, 0, 1708, 0, 0, 0, 0, 0, 0, 0, 1708, 0, 0, 0, 0, 0, 0, 0, 0, 0, 0, 0, 0, 0, 0, 0]
def k_X11_pattern : List aI := [aO 0 0 1, aC 0 (.int 0), aO 20 11 0, aO 0 0 1, aO 0 0 1, aO 0 1 0, aV 196 2 [11], aC 0 (.int 1), aV 178 3 [11], aO 15 12 0, aC 0 (.int 0), aO 17 15 0, aO 0 0 1, aO 0 1 0, aV 206 2 [11], aO 39 0 0]
def p_X11_pattern : List Nat := [0, 1, 2, 5, 6, 7, 8, 11, 12, 15, 18, 19, 22, 23, 24, 27, 28]
def h_X11_pattern : List Nat := [0, 0, 1537, 0, 0, 0, 1678, 0, 1667, 0, 0, 0, 0, 0, 1716, 0]
def k_X11_alongX : List aI := [aO 0 0 0, aO 15 4 3, aC 0 (.int 0), aO 17 17 0, aO 0 0 0, aC 0 (.int 4), aO 16 9 3, aO 0 0 0, aO 17 17 0, aO 0 0 0, aC 1 (.int 6), aO 16 14 3, aC 0 (.int 3), aO 17 17 0, aC 1 (.int 8), aO 0 0 0, aO 4 0 1, aO 39 0 0]
def p_X11_alongX : List Nat := [0, 1, 4, 5, 8, 9, 10, 13, 14, 17, 18, 20, 23, 24, 27, 29, 30, 31, 32]
def h_X11_alongX : List Nat := [0, 0, 0, 0, 0, 0, 0, 0, 0, 0, 0, 0, 0, 0, 0, 0, 0, 0]
def k_X11_alongY : List aI := [aO 0 0 0, aO 15 4 3, aC 0 (.int 0), aO 17 18 0, aO 0 0 0, aO 15 8 1, aC 0 (.int 3), aO 17 18 0, aO 0 0 0, aC 0 (.int 5), aO 16 15 3, aC 0 (.int 4), aO 0 0 0, aO 4 0 1, aO 17 18 0, aO 0 0 0, aC 0 (.int 4), aO 4 0 1, aO 39 0 0]
def p_X11_alongY : List Nat := [0, 1, 4, 5, 8, 9, 12, 13, 16, 17, 18, 21, 22, 23, 24, 27, 28, 29, 30, 31]
def h_X11_alongY : List Nat := [0, 0, 0, 0, 0, 0, 0, 0, 0, 0, 0, 0, 0, 0, 0, 0, 0, 0, 0]
def k_X11_ridgesOf : List aI := [aO 0 0 1, aO 0 1 0, aV 206 2 [11], aO 1 2 0, aO 0 2 0, aC 0 (.int 1), aC 0 (.int 4), aV 179 3 [], aO 15 11 1, aC 0 (.int 0), aO 39 0 0, aO 0 0 1, aO 0 1 0, aC 0 (.int 0), aC 1 (.int 8), aV 204 4 [11], aO 1 3 0, aO 0 0 1, aO 0 1 0, aC 0 (.int 0), aC 1 (.int (-8)), aV 204 4 [11], aO 1 4 0, aO 0 3 0, aC 1 (.int 7), aO 5 0 1, aC 0 (.int 1), aO 4 0 0, aO 1 5 0, aO 0 3 0, aC 1 (.int 7), aO 5 0 0, aC 0 (.int 1), aO 4 0 0, aO 1 6 0, aO 0 4 0, aC 1 (.int 7), aO 5 0 1, aC 0 (.int 1), aO 4 0 0, aO 1 7 0, aO 0 4 0, aC 1 (.int 7), aO 5 0 0, aC 0 (.int 1), aO 4 0 0, aO 1 8 0, aC 0 (.int 0), aO 1 9 0, aO 0 5 0, aO 0 7 0, aO 16 77 0, aO 0 5 0, aO 0 7 0, aO 16 59 3, aO 0 5 0, aC 0 (.int 1), aO 4 0 0, aO 17 62 0, aO 0 5 0, aC 0 (.int 1), aO 4 0 1, aO 1 10 0, aO 0 9 0, aO 0 0 1, aO 0 1 0, aO 0 5 0, aO 0 10 0, aV 336 2 [], aO 0 6 0, aV 200 4 [11], aV 208 1 [], aO 4 0 0, aO 1 9 0, aO 0 10 0, aO 1 5 0, aO 17 49 0, aO 0 6 0, aO 0 8 0, aO 16 105 0, aO 0 6 0, aO 0 8 0, aO 16 87 3, aO 0 6 0, aC 0 (.int 1), aO 4 0 0, aO 17 90 0, aO 0 6 0, aC 0 (.int 1), aO 4 0 1, aO 1 10 0, aO 0 9 0, aO 0 0 1, aO 0 1 0, aO 0 5 0, aO 0 6 0, aO 0 10 0, aV 336 2 [], aV 200 4 [11], aV 209 1 [], aO 4 0 0, aO 1 9 0, aO 0 10 0, aO 1 6 0, aO 17 77 0, aO 0 9 0, aO 39 0 0]
def p_X11_ridgesOf : List Nat := [0, 1, 2, 5, 6, 7, 8, 9, 12, 15, 16, 17, 18, 19, 20, 22, 25, 26, 27, 28, 29, 31, 34, 36, 37, 39, 40, 41, 42, 44, 45, 47, 48, 49, 50, 52, 54, 56, 57, 58, 59, 61, 63, 65, 66, 67, 68, 70, 71, 73, 75, 77, 80, 82, 84, 87, 89, 90, 91, 94, 96, 97, 98, 100, 102, 103, 104, 106, 108, 111, 113, 116, 119, 120, 122, 124, 126, 129, 131, 133, 136, 138, 140, 143, 145, 146, 147, 150, 152, 153, 154, 156, 158, 159, 160, 162, 164, 166, 169, 172, 175, 176, 178, 180, 182, 185, 187, 188]
def h_X11_ridgesOf : List Nat := [0, 0, 1716, 0, 0, 0, 0, 1682, 0, 0, 0, 0, 0, 0, 0, 1708, 0, 0, 0, 0, 0, 1708, 0, 0, 0, 0, 0, 0, 0, 0, 0, 0, 0, 0, 0, 0, 0, 0, 0, 0, 0, 0, 0, 0, 0, 0, 0, 0, 0, 0, 0, 0, 0, 0, 0, 0, 0, 0, 0, 0, 0, 0, 0, 0, 0, 0, 0, 0, 1728, 0, 1697, 1729, 0, 0, 0, 0, 0, 0, 0, 0, 0, 0, 0, 0, 0, 0, 0, 0, 0, 0, 0, 0, 0, 0, 0, 0, 0, 1728, 1697, 1732, 0, 0, 0, 0, 0, 0, 0]
def k_X11_ridges : List aI := [aO 0 0 1, aC 0 (.int 0), aO 20 11 0, aO 0 0 1, aO 0 0 1, aO 0 1 0, aV 196 2 [11], aC 0 (.int 1), aV 178 3 [11], aO 15 12 0, aC 0 (.int 0), aO 17 15 0, aO 0 0 1, aO 0 1 0, aV 210 2 [11], aO 39 0 0]
def p_X11_ridges : List Nat := [0, 1, 2, 5, 6, 7, 8, 11, 12, 15, 18, 19, 22, 23, 24, 27, 28]
def h_X11_ridges : List Nat := [0, 0, 1537, 0, 0, 0, 1678, 0, 1667, 0, 0, 0, 0, 0, 1724, 0]
def k_X11_classOfPrint : List aI := [aO 0 0 1, aO 0 1 0, aV 206 2 [11], aO 1 2 0, aO 0 2 0, aT 28 2 [6, 15, 24, 26], aO 0 0 1, aO 0 1 0, aV 210 2 [11], aC 1 (.int 9), aO 16 13 5, aC 0 (.int 3), aO 17 14 0, aC 0 (.int 2), aO 39 0 0, aO 0 0 1, aO 0 1 0, aV 210 2 [11], aC 1 (.int 9), aO 16 22 5, aC 0 (.int 5), aO 17 23 0, aC 0 (.int 4), aO 39 0 0, aC 1 (.int 6), aO 39 0 0, aC 1 (.int 7), aO 39 0 0, aO 0 2 0, aO 39 0 0]
def p_X11_classOfPrint : List Nat := [0, 1, 2, 5, 6, 7, 36, 37, 38, 41, 43, 46, 47, 50, 51, 52, 53, 54, 57, 59, 62, 63, 66, 67, 68, 70, 71, 73, 74, 75, 76]
def h_X11_classOfPrint : List Nat := [0, 0, 1716, 0, 0, 0, 0, 0, 1724, 0, 0, 0, 0, 0, 0, 0, 0, 1724, 0, 0, 0, 0, 0, 0, 0, 0, 0, 0, 0, 0]
def k_X11_noPoint : List aI := [aO 0 0 0, aC 0 (.int 0), aC 1 (.int 63), aV 179 3 [], aO 15 20 0, aO 0 1 0, aC 0 (.int 0), aC 1 (.int 63), aV 179 3 [], aO 15 20 0, aO 0 2 0, aC 0 (.int 0), aC 0 (.int 2), aV 179 3 [], aO 15 20 0, aO 0 3 0, aC 0 (.int 0), aC 1 (.int 15), aV 179 3 [], aO 15 22 1, aC 0 (.int 1), aO 17 23 0, aC 0 (.int 0), aO 39 0 0]
def p_X11_noPoint : List Nat := [0, 1, 2, 4, 7, 10, 11, 12, 14, 17, 20, 21, 22, 23, 26, 29, 30, 31, 33, 36, 39, 40, 43, 44, 45]
def h_X11_noPoint : List Nat := [0, 0, 0, 1682, 0, 0, 0, 0, 1682, 0, 0, 0, 0, 1682, 0, 0, 0, 0, 1682, 0, 0, 0, 0, 0]
def k_X11_adds : List aI := [aO 0 0 1, aO 19 11 1, aO 0 1 0, aO 23 0 0, aO 1 6 0, aO 0 6 0, aC 1 (.int 8), aO 16 10 1, aC 0 (.int (-1)), aO 39 0 0, aO 0 0 1, aO 19 11 1, aO 0 1 0, aC 0 (.int 1), aO 4 0 0, aC 0 (.int 4), aO 0 6 0, aO 4 0 2, aO 4 0 0, aO 0 2 0, aO 24 0 0, aO 0 0 1, aO 19 11 1, aO 0 1 0, aC 0 (.int 2), aO 4 0 0, aC 0 (.int 4), aO 0 6 0, aO 4 0 2, aO 4 0 0, aO 0 3 0, aO 24 0 0, aO 0 0 1, aO 19 11 1, aO 0 1 0, aC 0 (.int 3), aO 4 0 0, aC 0 (.int 4), aO 0 6 0, aO 4 0 2, aO 4 0 0, aO 0 4 0, aO 24 0 0, aO 0 0 1, aO 19 11 1, aO 0 1 0, aC 0 (.int 4), aO 4 0 0, aC 0 (.int 4), aO 0 6 0, aO 4 0 2, aO 4 0 0, aO 0 5 0, aO 24 0 0, aO 0 0 1, aO 19 11 1, aO 0 1 0, aO 12 0 1, aO 23 0 0, aC 0 (.int 1), aO 4 0 0, aO 24 0 0, aO 0 6 0, aO 39 0 0]
def p_X11_adds : List Nat := [0, 1, 4, 5, 6, 8, 10, 12, 15, 16, 17, 18, 21, 22, 23, 24, 25, 27, 28, 29, 30, 31, 32, 35, 36, 37, 38, 39, 41, 42, 43, 44, 45, 46, 49, 50, 51, 52, 53, 55, 56, 57, 59, 60, 61, 64, 65, 66, 67, 68, 70, 71, 72, 74, 75, 76, 79, 80, 81, 82, 83, 84, 85, 87, 88]
def h_X11_adds : List Nat := [0, 1538, 0, 0, 0, 0, 0, 0, 0, 0, 0, 1538, 0, 0, 0, 0, 0, 0, 0, 0, 0, 0, 1538, 0, 0, 0, 0, 0, 0, 0, 0, 0, 0, 1538, 0, 0, 0, 0, 0, 0, 0, 0, 0, 0, 1538, 0, 0, 0, 0, 0, 0, 0, 0, 0, 0, 1538, 0, 0, 0, 0, 0, 0, 0, 0]
def k_X11_point : List aI := [aO 0 0 1, aC 0 (.int 0), aO 20 11 0, aO 0 0 1, aO 0 0 1, aO 0 1 0, aV 196 2 [11], aC 0 (.int 1), aV 178 3 [11], aO 15 19 1, aO 0 0 1, aO 0 2 0, aO 0 3 0, aO 0 4 0, aO 0 5 0, aV 213 4 [], aC 0 (.int 2), aV 178 3 [11], aO 15 21 0, aC 0 (.int 0), aO 17 31 0, aO 0 0 1, aO 0 1 0, aV 195 1 [], aC 1 (.int 64), aO 4 0 0, aO 0 2 0, aO 0 3 0, aO 0 4 0, aO 0 5 0, aV 214 6 [11], aO 39 0 0]
def p_X11_point : List Nat := [0, 1, 2, 5, 6, 7, 8, 11, 12, 15, 18, 19, 20, 21, 23, 25, 28, 29, 32, 35, 36, 39, 40, 41, 44, 46, 47, 48, 49, 51, 53, 56, 57]
def h_X11_point : List Nat := [0, 0, 1537, 0, 0, 0, 1678, 0, 1667, 0, 0, 0, 0, 0, 0, 1739, 0, 1667, 0, 0, 0, 0, 0, 1671, 0, 0, 0, 0, 0, 0, 1742, 0]
def k_X11_markAt : List aI := [aC 2 (.int 5826), aC 1 (.int 39), aO 0 0 0, aO 4 0 2, aO 4 0 0, aO 0 1 0, aO 4 0 0, aO 39 0 0]
def p_X11_markAt : List Nat := [0, 3, 5, 6, 7, 8, 9, 10, 11]
def h_X11_markAt : List Nat := [0, 0, 0, 0, 0, 0, 0, 0]
def k_X11_noMark : List aI := [aO 0 1 0, aC 0 (.int 0), aO 0 0 1, aO 19 11 1, aC 2 (.int 5825), aO 23 0 0, aC 0 (.int 1), aO 4 0 1, aV 179 3 [], aO 15 12 1, aC 0 (.int 1), aO 17 13 0, aC 0 (.int 0), aO 39 0 0]
def p_X11_noMark : List Nat := [0, 1, 2, 3, 6, 9, 10, 11, 12, 15, 18, 19, 22, 23, 24]
def h_X11_noMark : List Nat := [0, 0, 0, 1538, 0, 0, 0, 0, 1682, 0, 0, 0, 0, 0]
def k_X11_mark : List aI := [aO 0 0 1, aC 0 (.int 0), aO 20 11 0, aO 0 0 1, aO 0 1 0, aO 15 20 2, aO 0 3 0, aO 0 1 0, aO 16 20 2, aO 0 3 0, aC 1 (.int 63), aO 16 20 4, aO 0 2 0, aO 15 20 2, aO 0 4 0, aO 0 2 0, aO 16 20 2, aO 0 4 0, aC 1 (.int 63), aO 16 22 5, aC 0 (.int 1), aO 17 23 0, aC 0 (.int 0), aC 0 (.int 1), aV 178 3 [11], aO 15 39 1, aO 0 0 1, aO 0 0 1, aO 19 11 1, aC 2 (.int 5825), aO 23 0 0, aC 1 (.int 20), aO 16 35 1, aC 0 (.int 1), aO 17 36 0, aC 0 (.int 0), aC 0 (.int 2), aV 178 3 [11], aO 15 41 0, aC 0 (.int 0), aO 39 0 0, aO 0 0 1, aO 19 11 1, aC 2 (.int 5825), aO 23 0 0, aO 1 6 0, aO 0 0 1, aO 19 11 1, aC 2 (.int 5825), aO 12 0 1, aO 23 0 0, aC 0 (.int 1), aO 4 0 0, aO 24 0 0, aO 0 0 1, aO 19 11 1, aO 0 6 0, aC 0 (.int 0), aV 216 2 [], aO 0 0 1, aV 181 1 [11], aO 24 0 0, aO 0 0 1, aO 19 11 1, aO 0 6 0, aC 0 (.int 1), aV 216 2 [], aO 0 1 0, aO 24 0 0, aO 0 0 1, aO 19 11 1, aO 0 6 0, aC 0 (.int 2), aV 216 2 [], aO 0 2 0, aO 24 0 0, aO 0 0 1, aO 19 11 1, aO 0 6 0, aC 0 (.int 3), aV 216 2 [], aO 0 3 0, aO 24 0 0, aO 0 0 1, aO 19 11 1, aO 0 6 0, aC 0 (.int 4), aV 216 2 [], aO 0 4 0, aO 24 0 0, aO 0 0 1, aO 19 11 1, aO 0 6 0, aC 0 (.int 5), aV 216 2 [], aO 0 5 0, aO 15 99 0, aC 0 (.int 1), aO 17 100 0, aC 0 (.int 0), aO 24 0 0, aO 0 6 0, aO 39 0 0]
def p_X11_mark : List Nat := [0, 1, 2, 5, 6, 7, 10, 11, 12, 15, 16, 18, 21, 22, 25, 27, 28, 31, 33, 35, 38, 39, 42, 43, 44, 47, 50, 51, 52, 55, 58, 59, 61, 64, 65, 68, 69, 70, 73, 76, 77, 78, 79, 82, 85, 86, 88, 89, 92, 95, 96, 97, 98, 99, 100, 101, 104, 106, 107, 110, 111, 114, 115, 116, 119, 121, 122, 125, 126, 127, 128, 131, 133, 134, 137, 138, 139, 140, 143, 145, 146, 149, 150, 151, 152, 155, 157, 158, 161, 163, 164, 165, 168, 170, 171, 174, 176, 179, 180, 183, 184, 185, 187, 188]
def h_X11_mark : List Nat := [0, 0, 1537, 0, 0, 0, 0, 0, 0, 0, 0, 0, 0, 0, 0, 0, 0, 0, 0, 0, 0, 0, 0, 0, 1667, 0, 0, 0, 1538, 0, 0, 0, 0, 0, 0, 0, 0, 1667, 0, 0, 0, 0, 1538, 0, 0, 0, 0, 1538, 0, 0, 0, 0, 0, 0, 0, 1538, 0, 0, 1750, 0, 1753, 0, 0, 1538, 0, 0, 1750, 0, 0, 0, 1538, 0, 0, 1750, 0, 0, 0, 1538, 0, 0, 1750, 0, 0, 0, 1538, 0, 0, 1750, 0, 0, 0, 1538, 0, 0, 1750, 0, 0, 0, 0, 0, 0, 0, 0]
def k_X11_spot : List aI := [aO 0 0 1, aC 0 (.int 0), aO 20 11 0, aO 0 0 1, aO 0 0 1, aO 0 1 0, aV 217 2 [11], aC 0 (.int 1), aV 178 3 [11], aO 15 19 1, aO 0 0 1, aO 0 2 0, aO 0 3 0, aO 0 4 0, aO 0 5 0, aV 213 4 [], aC 0 (.int 2), aV 178 3 [11], aO 15 21 0, aC 0 (.int 0), aO 17 30 0, aO 0 0 1, aO 0 1 0, aC 1 (.int 6), aV 216 2 [], aO 0 2 0, aO 0 3 0, aO 0 4 0, aO 0 5 0, aV 214 6 [11], aO 39 0 0]
def p_X11_spot : List Nat := [0, 1, 2, 5, 6, 7, 8, 11, 12, 15, 18, 19, 20, 21, 23, 25, 28, 29, 32, 35, 36, 39, 40, 41, 43, 46, 47, 48, 50, 52, 55, 56]
def h_X11_spot : List Nat := [0, 0, 1537, 0, 0, 0, 1761, 0, 1667, 0, 0, 0, 0, 0, 0, 1739, 0, 1667, 0, 0, 0, 0, 0, 0, 1750, 0, 0, 0, 0, 1742, 0]
def k_X11_slack : List aI := [aO 0 0 1, aC 0 (.int 0), aO 20 11 0, aO 0 0 1, aO 0 1 0, aC 0 (.int 0), aC 1 (.int 8), aV 179 3 [], aO 15 11 1, aC 0 (.int 1), aO 17 12 0, aC 0 (.int 0), aC 0 (.int 1), aV 178 3 [11], aO 15 16 0, aO 39 0 3, aO 0 0 1, aO 19 11 1, aC 0 (.int 1), aO 0 1 0, aO 24 0 0, aO 39 0 3]
def p_X11_slack : List Nat := [0, 1, 2, 5, 6, 7, 8, 10, 13, 16, 17, 20, 21, 22, 25, 28, 29, 30, 33, 34, 35, 36, 37]
def h_X11_slack : List Nat := [0, 0, 1537, 0, 0, 0, 0, 1682, 0, 0, 0, 0, 0, 1667, 0, 0, 0, 1538, 0, 0, 0, 0]
def k_X11_turnedX : List aI := [aO 0 0 0, aO 15 4 1, aO 0 1 0, aO 17 19 0, aO 0 0 0, aC 0 (.int 1), aO 16 11 1, aC 1 (.int 63), aO 0 2 0, aO 4 0 1, aO 17 19 0, aO 0 0 0, aC 0 (.int 2), aO 16 18 1, aC 1 (.int 63), aO 0 1 0, aO 4 0 1, aO 17 19 0, aO 0 2 0, aO 39 0 0]
def p_X11_turnedX : List Nat := [0, 1, 4, 5, 8, 9, 10, 13, 15, 16, 17, 20, 21, 22, 25, 27, 28, 29, 32, 33, 34]
def h_X11_turnedX : List Nat := [0, 0, 0, 0, 0, 0, 0, 0, 0, 0, 0, 0, 0, 0, 0, 0, 0, 0, 0, 0]
def k_X11_turnedY : List aI := [aO 0 0 0, aO 15 4 1, aO 0 2 0, aO 17 19 0, aO 0 0 0, aC 0 (.int 1), aO 16 9 1, aO 0 1 0, aO 17 19 0, aO 0 0 0, aC 0 (.int 2), aO 16 16 1, aC 1 (.int 63), aO 0 2 0, aO 4 0 1, aO 17 19 0, aC 1 (.int 63), aO 0 1 0, aO 4 0 1, aO 39 0 0]
def p_X11_turnedY : List Nat := [0, 1, 4, 5, 8, 9, 10, 13, 14, 17, 18, 19, 22, 24, 25, 26, 29, 31, 32, 33, 34]
def h_X11_turnedY : List Nat := [0, 0, 0, 0, 0, 0, 0, 0, 0, 0, 0, 0, 0, 0, 0, 0, 0, 0, 0, 0]
def k_X11_mayPair : List aI := [aO 0 3 0, aO 0 0 1, aO 19 11 1, aO 0 1 0, aO 23 0 0, aO 0 0 1, aO 19 11 1, aO 0 1 0, aC 0 (.int 1), aO 4 0 0, aO 23 0 0, aV 221 3 [], aO 0 4 0, aO 4 0 0, aO 0 0 1, aO 19 11 1, aO 0 2 0, aO 23 0 0, aO 4 0 1, aO 1 6 0, aO 0 3 0, aO 0 0 1, aO 19 11 1, aO 0 1 0, aO 23 0 0, aO 0 0 1, aO 19 11 1, aO 0 1 0, aC 0 (.int 1), aO 4 0 0, aO 23 0 0, aV 222 3 [], aO 0 5 0, aO 4 0 0, aO 0 0 1, aO 19 11 1, aO 0 2 0, aC 0 (.int 1), aO 4 0 0, aO 23 0 0, aO 4 0 1, aO 1 7 0, aO 0 0 1, aO 19 11 1, aO 0 1 0, aC 0 (.int 3), aO 4 0 0, aO 23 0 0, aC 0 (.int 4), aO 0 3 0, aO 4 0 2, aO 4 0 0, aO 0 0 1, aO 19 11 1, aO 0 2 0, aC 0 (.int 3), aO 4 0 0, aO 23 0 0, aO 4 0 1, aC 1 (.int 16), aV 333 2 [], aO 1 8 0, aO 0 0 1, aO 19 11 1, aO 0 1 0, aC 0 (.int 2), aO 4 0 0, aO 23 0 0, aO 0 0 1, aO 19 11 1, aO 0 2 0, aC 0 (.int 2), aO 4 0 0, aO 23 0 0, aO 16 91 0, aO 0 0 1, aO 19 11 1, aO 0 1 0, aC 0 (.int 2), aO 4 0 0, aO 23 0 0, aC 0 (.int 2), aO 16 91 0, aO 0 0 1, aO 19 11 1, aO 0 2 0, aC 0 (.int 2), aO 4 0 0, aO 23 0 0, aC 0 (.int 2), aO 16 93 1, aC 0 (.int 1), aO 17 94 0, aC 0 (.int 0), aO 1 9 0, aO 0 9 0, aO 15 119 0, aO 0 6 0, aV 334 1 [], aO 0 0 1, aO 19 11 1, aC 0 (.int 1), aO 23 0 0, aO 16 119 4, aO 0 7 0, aV 334 1 [], aO 0 0 1, aO 19 11 1, aC 0 (.int 1), aO 23 0 0, aO 16 119 4, aO 0 8 0, aC 0 (.int 2), aO 16 117 2, aO 0 8 0, aC 1 (.int 15), aO 16 119 1, aC 0 (.int 1), aO 17 120 0, aC 0 (.int 0), aO 39 0 0]
def p_X11_mayPair : List Nat := [0, 1, 2, 5, 6, 7, 8, 11, 12, 13, 14, 15, 18, 20, 21, 22, 25, 26, 27, 28, 30, 31, 32, 35, 36, 37, 38, 41, 42, 43, 44, 45, 48, 50, 51, 52, 55, 56, 57, 58, 59, 60, 62, 63, 66, 67, 68, 69, 70, 71, 72, 73, 74, 75, 78, 79, 80, 81, 82, 83, 85, 88, 90, 91, 94, 95, 96, 97, 98, 99, 102, 103, 104, 105, 106, 109, 110, 113, 114, 115, 116, 117, 118, 121, 122, 125, 126, 127, 128, 129, 130, 133, 134, 137, 138, 140, 142, 145, 147, 150, 151, 154, 155, 156, 159, 161, 164, 165, 168, 169, 170, 173, 175, 176, 179, 181, 183, 186, 187, 190, 191, 192]
def h_X11_mayPair : List Nat := [0, 0, 1538, 0, 0, 0, 1538, 0, 0, 0, 0, 1781, 0, 0, 0, 1538, 0, 0, 0, 0, 0, 0, 1538, 0, 0, 0, 1538, 0, 0, 0, 0, 1784, 0, 0, 0, 1538, 0, 0, 0, 0, 0, 0, 0, 1538, 0, 0, 0, 0, 0, 0, 0, 0, 0, 1538, 0, 0, 0, 0, 0, 0, 1701, 0, 0, 1538, 0, 0, 0, 0, 0, 1538, 0, 0, 0, 0, 0, 0, 1538, 0, 0, 0, 0, 0, 0, 0, 1538, 0, 0, 0, 0, 0, 0, 0, 0, 0, 0, 0, 0, 0, 1795, 0, 1538, 0, 0, 0, 0, 1795, 0, 1538, 0, 0, 0, 0, 0, 0, 0, 0, 0, 0, 0, 0, 0]
def k_X11_seeks : List aI := [aC 0 (.int 0), aO 1 3 0, aO 0 3 0, aO 0 2 0, aO 16 53 3, aO 0 0 1, aO 19 11 18, aO 0 1 0, aO 23 0 0, aO 0 3 0, aO 4 0 7, aC 0 (.int 1), aO 4 0 3, aO 15 51 0, aO 0 0 1, aO 19 11 20, aO 0 3 0, aO 4 0 7, aC 0 (.int 1), aO 4 0 3, aC 0 (.int 1), aO 16 23 1, aO 17 51 0, aO 0 0 1, aO 12 0 0, aO 19 11 20, aC 0 (.int 1), aO 0 3 0, aO 4 0 6, aO 4 0 4, aO 20 11 20, aO 0 0 1, aO 19 11 19, aO 0 3 0, aO 23 0 0, aO 15 44 2, aO 0 0 1, aO 0 0 1, aO 19 11 19, aO 0 3 0, aO 23 0 0, aO 0 2 0, aV 224 3 [11], aO 15 51 0, aO 0 0 1, aO 19 11 19, aO 0 3 0, aO 0 1 0, aO 24 0 0, aC 0 (.int 1), aO 39 0 0, aN 3 1, aO 17 2 0, aC 0 (.int 0), aO 39 0 0]
def p_X11_seeks : List Nat := [0, 1, 2, 3, 4, 7, 8, 11, 12, 13, 14, 15, 16, 17, 20, 21, 24, 25, 26, 27, 28, 29, 32, 35, 36, 37, 40, 41, 42, 43, 44, 47, 48, 51, 52, 53, 56, 57, 58, 61, 62, 63, 64, 67, 70, 71, 74, 75, 76, 77, 78, 79, 82, 85, 86, 87]
def h_X11_seeks : List Nat := [0, 0, 0, 0, 0, 0, 1555, 0, 0, 0, 0, 0, 0, 0, 0, 1557, 0, 0, 0, 0, 0, 0, 0, 0, 0, 1557, 0, 0, 0, 0, 1557, 0, 1556, 0, 0, 0, 0, 0, 1556, 0, 0, 0, 1804, 0, 0, 1556, 0, 0, 0, 0, 0, 0, 0, 0, 0]
def k_X11_pairsOf : List aI := [aC 0 (.int 0), aO 1 3 0, aC 0 (.int 0), aO 1 4 0, aO 0 4 0, aO 0 2 0, aO 16 14 3, aO 0 0 1, aO 19 11 19, aO 0 4 0, aC 0 (.int (-1)), aO 24 0 0, aN 4 1, aO 17 4 0, aC 0 (.int 0), aO 1 4 0, aO 0 4 0, aO 0 1 0, aO 16 35 3, aO 0 0 1, aC 0 (.int 0), aO 20 11 20, aO 0 3 0, aO 0 0 1, aO 0 4 0, aO 0 2 0, aV 224 3 [11], aO 15 30 0, aC 0 (.int 1), aO 17 31 0, aC 0 (.int 0), aO 4 0 0, aO 1 3 0, aN 4 1, aO 17 16 0, aO 0 3 0, aO 39 0 0]
def p_X11_pairsOf : List Nat := [0, 1, 2, 3, 5, 7, 8, 11, 12, 15, 17, 18, 19, 22, 25, 26, 28, 30, 31, 34, 35, 36, 39, 40, 41, 43, 44, 47, 50, 51, 54, 55, 56, 57, 60, 63, 64, 65]
def h_X11_pairsOf : List Nat := [0, 0, 0, 0, 0, 0, 0, 0, 1556, 0, 0, 0, 0, 0, 0, 0, 0, 0, 0, 0, 0, 1557, 0, 0, 0, 0, 1804, 0, 0, 0, 0, 0, 0, 0, 0, 0, 0]
def k_X11_isBetween : List aI := [aO 0 0 0, aO 0 1 0, aO 0 2 0, aV 336 2 [], aO 16 12 2, aO 0 0 0, aO 0 1 0, aO 0 2 0, aV 335 2 [], aO 16 12 4, aC 0 (.int 1), aO 17 13 0, aC 0 (.int 0), aO 39 0 0]
def p_X11_isBetween : List Nat := [0, 1, 2, 3, 6, 9, 10, 11, 12, 15, 18, 19, 22, 23, 24]
def h_X11_isBetween : List Nat := [0, 0, 0, 1728, 0, 0, 0, 0, 1799, 0, 0, 0, 0, 0]
def k_X11_tries : List aI := [aO 0 0 1, aO 19 11 1, aO 0 1 0, aO 23 0 0, aO 1 10 0, aO 0 0 1, aO 19 11 1, aO 0 2 0, aO 23 0 0, aO 1 11 0, aC 0 (.int 0), aO 1 12 0, aC 0 (.int 0), aO 1 13 0, aC 0 (.int 0), aO 1 14 0, aO 0 14 0, aO 0 10 0, aO 16 127 3, aO 0 1 0, aC 0 (.int 1), aO 4 0 0, aC 0 (.int 4), aO 0 14 0, aO 4 0 2, aO 4 0 0, aO 1 15 0, aO 0 0 1, aO 19 11 18, aO 0 14 0, aC 0 (.int 0), aO 24 0 0, aC 0 (.int 0), aO 1 16 0, aO 0 16 0, aO 0 11 0, aO 16 65 3, aO 0 0 1, aO 19 11 18, aO 0 14 0, aO 12 0 1, aO 23 0 0, aO 0 0 1, aO 0 15 0, aO 0 2 0, aC 0 (.int 1), aO 4 0 0, aC 0 (.int 4), aO 0 16 0, aO 4 0 2, aO 4 0 0, aO 0 7 0, aO 0 8 0, aO 0 9 0, aV 223 6 [11], aO 15 60 0, aC 0 (.int 1), aO 0 16 0, aO 4 0 6, aO 17 61 0, aC 0 (.int 0), aO 4 0 4, aO 24 0 0, aN 16 1, aO 17 34 0, aO 0 12 0, aO 0 0 1, aO 19 11 18, aO 0 14 0, aO 23 0 0, aO 4 0 4, aO 1 12 0, aO 0 7 0, aO 0 0 1, aO 19 11 1, aO 0 15 0, aO 23 0 0, aO 0 0 1, aO 19 11 1, aO 0 15 0, aC 0 (.int 1), aO 4 0 0, aO 23 0 0, aV 221 3 [], aO 0 8 0, aO 4 0 0, aC 0 (.int 0), aC 1 (.int 63), aV 179 3 [], aO 15 110 0, aO 0 7 0, aO 0 0 1, aO 19 11 1, aO 0 15 0, aO 23 0 0, aO 0 0 1, aO 19 11 1, aO 0 15 0, aC 0 (.int 1), aO 4 0 0, aO 23 0 0, aV 222 3 [], aO 0 9 0, aO 4 0 0, aC 0 (.int 0), aC 1 (.int 63), aV 179 3 [], aO 15 110 0, aC 0 (.int 1), aO 17 111 0, aC 0 (.int 0), aO 1 16 0, aO 0 13 0, aO 0 0 1, aO 19 11 18, aO 0 14 0, aO 23 0 0, aO 15 122 1, aO 0 16 0, aO 15 122 0, aC 0 (.int 1), aO 17 123 0, aC 0 (.int 0), aO 4 0 0, aO 1 13 0, aN 14 1, aO 17 16 0, aC 0 (.int 0), aO 1 14 0, aO 0 14 0, aO 0 11 0, aO 16 200 3, aO 0 0 1, aO 19 11 1, aO 0 2 0, aC 0 (.int 1), aO 4 0 0, aC 0 (.int 4), aO 0 14 0, aO 4 0 2, aO 4 0 0, aO 23 0 0, aO 0 8 0, aO 4 0 1, aO 1 15 0, aO 0 0 1, aO 19 11 1, aO 0 2 0, aC 0 (.int 2), aO 4 0 0, aC 0 (.int 4), aO 0 14 0, aO 4 0 2, aO 4 0 0, aO 23 0 0, aO 0 9 0, aO 4 0 1, aO 1 16 0, aO 0 15 0, aO 0 7 0, aO 0 3 0, aO 0 4 0, aV 221 3 [], aO 0 7 0, aO 0 5 0, aO 0 6 0, aV 221 3 [], aV 226 3 [], aO 15 182 0, aO 0 16 0, aO 0 7 0, aO 0 3 0, aO 0 4 0, aV 222 3 [], aO 0 7 0, aO 0 5 0, aO 0 6 0, aV 222 3 [], aV 226 3 [], aO 15 182 0, aC 0 (.int 1), aO 17 183 0, aC 0 (.int 0), aO 1 17 0, aO 0 13 0, aO 0 12 0, aO 0 14 0, aO 4 0 7, aC 0 (.int 1), aO 4 0 3, aO 15 195 1, aO 0 17 0, aO 15 195 0, aC 0 (.int 1), aO 17 196 0, aC 0 (.int 0), aO 4 0 0, aO 1 13 0, aN 14 1, aO 17 129 0, aO 0 0 1, aO 0 10 0, aO 0 11 0, aV 225 3 [11], aO 1 14 0, aO 0 14 0, aO 0 0 1, aO 19 11 13, aO 16 217 2, aO 0 14 0, aO 0 0 1, aO 19 11 13, aO 16 218 1, aO 0 13 0, aO 0 0 1, aO 19 11 14, aO 16 218 5, aO 39 0 3, aO 0 14 0, aO 0 0 1, aO 19 11 13, aO 16 226 4, aO 0 13 0, aO 0 0 1, aO 19 11 14, aO 16 228 3, aC 0 (.int 1), aO 17 229 0, aC 0 (.int 0), aO 1 15 0, aO 0 15 0, aO 15 253 1, aO 0 7 0, aO 0 0 1, aO 19 11 15, aO 16 252 4, aO 0 7 0, aO 0 0 1, aO 19 11 15, aO 16 253 1, aO 0 8 0, aO 0 0 1, aO 19 11 16, aO 16 252 4, aO 0 8 0, aO 0 0 1, aO 19 11 16, aO 16 253 1, aO 0 9 0, aO 0 0 1, aO 19 11 17, aO 16 253 2, aO 39 0 3, aO 0 0 1, aO 0 14 0, aO 20 11 13, aO 0 0 1, aO 0 13 0, aO 20 11 14, aO 0 0 1, aO 0 7 0, aO 20 11 15, aO 0 0 1, aO 0 8 0, aO 20 11 16, aO 0 0 1, aO 0 9 0, aO 20 11 17, aO 39 0 3]
def p_X11_tries : List Nat := [0, 1, 4, 5, 6, 8, 9, 12, 13, 14, 16, 17, 19, 20, 22, 23, 25, 27, 29, 32, 33, 34, 35, 36, 38, 39, 40, 42, 43, 46, 48, 49, 50, 51, 53, 55, 57, 60, 61, 64, 66, 67, 68, 69, 71, 72, 73, 74, 75, 77, 78, 79, 81, 83, 85, 88, 91, 92, 94, 95, 98, 99, 100, 101, 104, 107, 109, 110, 113, 115, 116, 117, 119, 121, 122, 125, 127, 128, 129, 132, 134, 135, 136, 137, 140, 142, 143, 144, 146, 149, 152, 154, 155, 158, 160, 161, 162, 165, 167, 168, 169, 170, 173, 175, 176, 177, 179, 182, 185, 186, 189, 190, 192, 194, 195, 198, 200, 201, 204, 206, 209, 210, 213, 214, 215, 217, 220, 223, 224, 226, 228, 230, 233, 234, 237, 238, 239, 240, 241, 243, 244, 245, 246, 248, 249, 251, 252, 255, 256, 257, 258, 259, 261, 262, 263, 264, 266, 267, 269, 271, 273, 274, 276, 279, 281, 283, 285, 288, 291, 294, 296, 298, 299, 301, 304, 306, 308, 310, 313, 316, 319, 320, 323, 324, 326, 328, 330, 332, 333, 334, 335, 338, 340, 343, 344, 347, 348, 349, 351, 354, 357, 358, 360, 362, 365, 367, 369, 370, 373, 376, 378, 379, 382, 385, 387, 388, 391, 394, 395, 397, 398, 401, 404, 406, 407, 410, 413, 414, 417, 418, 420, 422, 425, 427, 428, 431, 434, 436, 437, 440, 443, 445, 446, 449, 452, 454, 455, 458, 461, 463, 464, 467, 470, 471, 472, 474, 477, 478, 480, 483, 484, 486, 489, 490, 492, 495, 496, 498, 501, 502]
def h_X11_tries : List Nat := [0, 1538, 0, 0, 0, 0, 1538, 0, 0, 0, 0, 0, 0, 0, 0, 0, 0, 0, 0, 0, 0, 0, 0, 0, 0, 0, 0, 0, 1555, 0, 0, 0, 0, 0, 0, 0, 0, 0, 1555, 0, 0, 0, 0, 0, 0, 0, 0, 0, 0, 0, 0, 0, 0, 0, 1791, 0, 0, 0, 0, 0, 0, 0, 0, 0, 0, 0, 0, 1555, 0, 0, 0, 0, 0, 0, 1538, 0, 0, 0, 1538, 0, 0, 0, 0, 1781, 0, 0, 0, 0, 1682, 0, 0, 0, 1538, 0, 0, 0, 1538, 0, 0, 0, 0, 1784, 0, 0, 0, 0, 1682, 0, 0, 0, 0, 0, 0, 0, 1555, 0, 0, 0, 0, 0, 0, 0, 0, 0, 0, 0, 0, 0, 0, 0, 0, 0, 0, 1538, 0, 0, 0, 0, 0, 0, 0, 0, 0, 0, 0, 0, 1538, 0, 0, 0, 0, 0, 0, 0, 0, 0, 0, 0, 0, 0, 0, 0, 1781, 0, 0, 0, 1781, 1796, 0, 0, 0, 0, 0, 1784, 0, 0, 0, 1784, 1796, 0, 0, 0, 0, 0, 0, 0, 0, 0, 0, 0, 0, 0, 0, 0, 0, 0, 0, 0, 0, 0, 0, 0, 0, 1800, 0, 0, 0, 1550, 0, 0, 0, 1550, 0, 0, 0, 1551, 0, 0, 0, 0, 1550, 0, 0, 0, 1551, 0, 0, 0, 0, 0, 0, 0, 0, 0, 1552, 0, 0, 0, 1552, 0, 0, 0, 1553, 0, 0, 0, 1553, 0, 0, 0, 1554, 0, 0, 0, 0, 1550, 0, 0, 1551, 0, 0, 1552, 0, 0, 1553, 0, 0, 1554, 0]
def k_X11_lays : List aI := [aO 0 0 1, aC 0 (.int 0), aO 20 11 13, aO 0 0 1, aC 2 (.int 1000), aO 20 11 14, aO 0 0 1, aC 0 (.int 0), aO 20 11 15, aO 0 0 1, aC 0 (.int 0), aO 20 11 16, aO 0 0 1, aC 0 (.int 0), aO 20 11 17, aC 0 (.int 0), aO 1 7 0, aO 0 7 0, aC 0 (.int 4), aO 16 103 3, aC 0 (.int 0), aO 1 8 0, aO 0 8 0, aO 0 0 1, aO 19 11 1, aO 0 1 0, aO 23 0 0, aO 16 101 3, aC 0 (.int 0), aO 1 9 0, aO 0 9 0, aO 0 0 1, aO 19 11 1, aO 0 2 0, aO 23 0 0, aO 16 99 3, aO 0 1 0, aC 0 (.int 1), aO 4 0 0, aC 0 (.int 4), aO 0 8 0, aO 4 0 2, aO 4 0 0, aO 1 10 0, aO 0 2 0, aC 0 (.int 1), aO 4 0 0, aC 0 (.int 4), aO 0 9 0, aO 4 0 2, aO 4 0 0, aO 1 11 0, aO 0 0 1, aO 0 1 0, aO 0 2 0, aO 0 3 0, aO 0 4 0, aO 0 5 0, aO 0 6 0, aO 0 7 0, aO 0 0 1, aO 19 11 1, aO 0 11 0, aO 23 0 0, aO 0 7 0, aO 0 0 1, aO 19 11 1, aO 0 10 0, aO 23 0 0, aO 0 0 1, aO 19 11 1, aO 0 10 0, aC 0 (.int 1), aO 4 0 0, aO 23 0 0, aV 221 3 [], aO 4 0 1, aO 0 0 1, aO 19 11 1, aO 0 11 0, aC 0 (.int 1), aO 4 0 0, aO 23 0 0, aO 0 7 0, aO 0 0 1, aO 19 11 1, aO 0 10 0, aO 23 0 0, aO 0 0 1, aO 19 11 1, aO 0 10 0, aC 0 (.int 1), aO 4 0 0, aO 23 0 0, aV 222 3 [], aO 4 0 1, aV 227 10 [11], aN 9 1, aO 17 30 0, aN 8 1, aO 17 22 0, aN 7 1, aO 17 17 0, aO 0 0 1, aO 19 11 14, aC 2 (.int 1000), aO 16 110 1, aO 0 0 1, aC 0 (.int 0), aO 20 11 14, aO 39 0 3]
def p_X11_lays : List Nat := [0, 1, 2, 5, 6, 9, 12, 13, 14, 17, 18, 19, 22, 23, 24, 27, 28, 30, 32, 33, 36, 37, 39, 41, 42, 45, 46, 47, 50, 51, 53, 55, 56, 59, 60, 61, 64, 65, 66, 67, 68, 70, 71, 72, 74, 75, 76, 77, 78, 80, 81, 82, 84, 85, 86, 87, 88, 90, 92, 94, 96, 97, 100, 102, 103, 105, 106, 109, 111, 112, 113, 116, 118, 119, 120, 121, 124, 125, 126, 129, 131, 132, 133, 134, 136, 137, 140, 142, 143, 144, 147, 149, 150, 151, 152, 155, 156, 159, 162, 165, 168, 171, 174, 177, 178, 181, 184, 187, 188, 189, 192, 193]
def h_X11_lays : List Nat := [0, 0, 1550, 0, 0, 1551, 0, 0, 1552, 0, 0, 1553, 0, 0, 1554, 0, 0, 0, 0, 0, 0, 0, 0, 0, 1538, 0, 0, 0, 0, 0, 0, 0, 1538, 0, 0, 0, 0, 0, 0, 0, 0, 0, 0, 0, 0, 0, 0, 0, 0, 0, 0, 0, 0, 0, 0, 0, 0, 0, 0, 0, 0, 1538, 0, 0, 0, 0, 1538, 0, 0, 0, 1538, 0, 0, 0, 0, 1781, 0, 0, 1538, 0, 0, 0, 0, 0, 0, 1538, 0, 0, 0, 1538, 0, 0, 0, 0, 1784, 0, 1787, 0, 0, 0, 0, 0, 0, 0, 1551, 0, 0, 0, 0, 1551, 0]
def k_X11_laysMark : List aI := [aO 0 1 0, aC 0 (.int 1), aV 216 2 [], aO 1 3 0, aO 0 0 1, aO 0 1 0, aC 1 (.int 6), aV 216 2 [], aO 0 2 0, aV 195 1 [], aC 1 (.int 64), aO 4 0 0, aO 0 0 1, aO 19 11 1, aO 0 3 0, aO 23 0 0, aO 0 0 1, aO 19 11 1, aO 0 3 0, aC 0 (.int 1), aO 4 0 0, aO 23 0 0, aO 0 0 1, aO 19 11 1, aO 0 3 0, aC 0 (.int 2), aO 4 0 0, aO 23 0 0, aO 0 0 1, aO 19 11 1, aO 0 3 0, aC 0 (.int 3), aO 4 0 0, aO 23 0 0, aV 228 7 [11], aO 39 0 3]
def p_X11_laysMark : List Nat := [0, 1, 2, 5, 6, 7, 8, 10, 13, 14, 17, 19, 20, 21, 24, 25, 26, 27, 30, 31, 32, 33, 34, 35, 38, 39, 40, 41, 42, 43, 46, 47, 48, 49, 50, 53, 54]
def h_X11_laysMark : List Nat := [0, 0, 1750, 0, 0, 0, 0, 1750, 0, 1671, 0, 0, 0, 1538, 0, 0, 0, 1538, 0, 0, 0, 0, 0, 1538, 0, 0, 0, 0, 0, 1538, 0, 0, 0, 0, 1777, 0]
def k_X11_lay : List aI := [aO 0 0 1, aC 0 (.int 0), aO 20 11 0, aO 0 0 1, aO 0 0 1, aO 0 1 0, aV 217 2 [11], aO 15 12 1, aO 0 0 1, aO 0 2 0, aV 196 2 [11], aO 15 14 0, aC 0 (.int 1), aO 17 15 0, aC 0 (.int 0), aC 0 (.int 1), aV 178 3 [11], aO 15 30 1, aO 0 0 1, aO 0 3 0, aC 0 (.int 0), aC 0 (.int 4), aV 179 3 [], aO 15 26 1, aC 0 (.int 1), aO 17 27 0, aC 0 (.int 0), aC 0 (.int 2), aV 178 3 [11], aO 15 32 0, aC 0 (.int 0), aO 39 0 0, aO 0 0 1, aO 0 1 0, aO 0 2 0, aV 229 3 [11], aO 0 3 0, aT 50 0 [38, 41, 44, 47], aO 0 0 1, aO 19 11 13, aO 39 0 0, aO 0 0 1, aO 19 11 14, aO 39 0 0, aO 0 0 1, aO 19 11 15, aO 39 0 0, aO 0 0 1, aO 19 11 16, aO 39 0 0, aO 0 0 1, aO 19 11 17, aO 39 0 0]
def p_X11_lay : List Nat := [0, 1, 2, 5, 6, 7, 8, 11, 14, 15, 16, 19, 22, 23, 26, 27, 28, 31, 34, 35, 36, 37, 38, 41, 44, 45, 48, 49, 50, 53, 56, 57, 58, 59, 60, 61, 64, 65, 96, 97, 100, 101, 102, 105, 106, 107, 110, 111, 112, 115, 116, 117, 120, 121]
def h_X11_lay : List Nat := [0, 0, 1537, 0, 0, 0, 1761, 0, 0, 0, 1678, 0, 0, 0, 0, 0, 1667, 0, 0, 0, 0, 0, 1682, 0, 0, 0, 0, 0, 1667, 0, 0, 0, 0, 0, 0, 1773, 0, 0, 0, 1550, 0, 0, 1551, 0, 0, 1552, 0, 0, 1553, 0, 0, 1554, 0]
def k_X11_cardAt : List aI := [aC 2 (.int 6607), aC 1 (.int 26), aO 0 0 0, aO 4 0 2, aO 4 0 0, aO 0 1 0, aO 4 0 0, aO 39 0 0]
def p_X11_cardAt : List Nat := [0, 3, 5, 6, 7, 8, 9, 10, 11]
def h_X11_cardAt : List Nat := [0, 0, 0, 0, 0, 0, 0, 0]
def k_X11_of : List aI := [aO 0 0 1, aO 19 11 1, aO 0 1 0, aO 0 2 0, aV 231 2 [], aO 23 0 0, aO 39 0 0]
def p_X11_of : List Nat := [0, 1, 4, 5, 6, 9, 10, 11]
def h_X11_of : List Nat := [0, 1538, 0, 0, 1812, 0, 0]
def k_X11_noCard : List aI := [aO 0 1 0, aC 0 (.int 0), aO 0 0 1, aO 19 11 1, aC 2 (.int 6606), aO 23 0 0, aC 0 (.int 1), aO 4 0 1, aV 179 3 [], aO 15 12 1, aC 0 (.int 1), aO 17 13 0, aC 0 (.int 0), aO 39 0 0]
def p_X11_noCard : List Nat := [0, 1, 2, 3, 6, 9, 10, 11, 12, 15, 18, 19, 22, 23, 24]
def h_X11_noCard : List Nat := [0, 0, 0, 1538, 0, 0, 0, 0, 1682, 0, 0, 0, 0, 0]
def k_X11_noFinger : List aI := [aO 0 0 0, aC 0 (.int 0), aC 1 (.int 9), aV 179 3 [], aO 15 7 1, aC 0 (.int 1), aO 17 8 0, aC 0 (.int 0), aO 39 0 0]
def p_X11_noFinger : List Nat := [0, 1, 2, 4, 7, 10, 11, 14, 15, 16]
def h_X11_noFinger : List Nat := [0, 0, 0, 1682, 0, 0, 0, 0, 0]
def k_X11_isFiled : List aI := [aO 0 0 1, aO 0 1 0, aC 0 (.int 2), aV 232 3 [11], aO 15 7 3, aC 0 (.int 1), aO 17 8 0, aC 0 (.int 0), aO 39 0 0]
def p_X11_isFiled : List Nat := [0, 1, 2, 3, 6, 9, 10, 13, 14, 15]
def h_X11_isFiled : List Nat := [0, 0, 0, 1826, 0, 0, 0, 0, 0]
def k_X11_card : List aI := [aO 0 0 1, aC 0 (.int 0), aO 20 11 0, aO 0 0 1, aO 0 1 0, aC 0 (.int 0), aC 2 (.int 9999), aV 179 3 [], aO 15 11 1, aC 0 (.int 1), aO 17 12 0, aC 0 (.int 0), aC 0 (.int 1), aV 178 3 [11], aO 15 28 1, aO 0 0 1, aO 0 0 1, aO 19 11 1, aC 2 (.int 6606), aO 23 0 0, aC 1 (.int 16), aO 16 24 1, aC 0 (.int 1), aO 17 25 0, aC 0 (.int 0), aC 0 (.int 2), aV 178 3 [11], aO 15 30 0, aC 0 (.int 0), aO 39 0 0, aO 0 0 1, aO 19 11 1, aC 2 (.int 6606), aO 23 0 0, aO 1 2 0, aO 0 0 1, aO 19 11 1, aC 2 (.int 6606), aO 12 0 1, aO 23 0 0, aC 0 (.int 1), aO 4 0 0, aO 24 0 0, aC 0 (.int 0), aO 1 3 0, aO 0 3 0, aC 1 (.int 26), aO 16 57 3, aO 0 0 1, aO 19 11 1, aO 0 2 0, aO 0 3 0, aV 231 2 [], aC 0 (.int (-1)), aO 24 0 0, aN 3 1, aO 17 45 0, aO 0 0 1, aO 19 11 1, aO 0 2 0, aC 0 (.int 0), aV 231 2 [], aO 0 1 0, aO 24 0 0, aO 0 0 1, aO 19 11 1, aO 0 2 0, aC 0 (.int 1), aV 231 2 [], aO 0 0 1, aV 181 1 [11], aO 24 0 0, aO 0 2 0, aO 39 0 0]
def p_X11_card : List Nat := [0, 1, 2, 5, 6, 7, 8, 11, 14, 17, 18, 21, 22, 23, 26, 29, 30, 31, 34, 37, 38, 40, 43, 44, 47, 48, 49, 52, 55, 56, 57, 58, 61, 64, 65, 66, 67, 70, 73, 74, 75, 76, 77, 78, 79, 80, 81, 83, 86, 87, 90, 91, 92, 95, 96, 97, 100, 103, 104, 107, 108, 109, 112, 113, 114, 115, 118, 119, 120, 123, 124, 127, 128, 129, 130]
def h_X11_card : List Nat := [0, 0, 1537, 0, 0, 0, 0, 1682, 0, 0, 0, 0, 0, 1667, 0, 0, 0, 1538, 0, 0, 0, 0, 0, 0, 0, 0, 1667, 0, 0, 0, 0, 1538, 0, 0, 0, 0, 1538, 0, 0, 0, 0, 0, 0, 0, 0, 0, 0, 0, 0, 1538, 0, 0, 1812, 0, 0, 0, 0, 0, 1538, 0, 0, 1812, 0, 0, 0, 1538, 0, 0, 1812, 0, 1753, 0, 0, 0]
def k_X11_comparedAt : List aI := [aC 2 (.int 7023), aC 1 (.int 10), aC 1 (.int 16), aO 0 0 0, aO 4 0 2, aO 0 1 0, aO 4 0 0, aO 4 0 2, aO 4 0 0, aO 0 2 0, aO 4 0 0, aO 39 0 0]
def p_X11_comparedAt : List Nat := [0, 3, 5, 7, 8, 9, 10, 11, 12, 13, 14, 15, 16]
def h_X11_comparedAt : List Nat := [0, 0, 0, 0, 0, 0, 0, 0, 0, 0, 0, 0]
def k_X11_finger : List aI := [aO 0 0 1, aC 0 (.int 0), aO 20 11 0, aO 0 0 1, aO 0 0 1, aO 0 1 0, aV 233 2 [11], aO 15 18 1, aO 0 2 0, aV 234 1 [], aO 15 18 1, aO 0 3 0, aC 0 (.int (-1)), aO 16 20 0, aO 0 0 1, aO 0 3 0, aV 196 2 [11], aO 15 20 0, aC 0 (.int 1), aO 17 21 0, aC 0 (.int 0), aC 0 (.int 1), aV 178 3 [11], aO 15 32 1, aO 0 0 1, aO 0 1 0, aC 1 (.int 6), aO 0 2 0, aO 4 0 0, aV 232 3 [11], aO 0 3 0, aO 16 34 1, aC 0 (.int 0), aO 39 0 0, aO 0 0 1, aO 19 11 1, aO 0 1 0, aC 1 (.int 6), aO 0 2 0, aO 4 0 0, aV 231 2 [], aO 0 3 0, aO 24 0 0, aC 0 (.int 0), aO 1 4 0, aO 0 4 0, aC 1 (.int 20), aO 16 58 3, aO 0 0 1, aO 19 11 1, aO 0 4 0, aO 0 1 0, aO 0 2 0, aV 237 3 [], aC 0 (.int 0), aO 24 0 0, aN 4 1, aO 17 45 0, aC 0 (.int 1), aO 39 0 0]
def p_X11_finger : List Nat := [0, 1, 2, 5, 6, 7, 8, 11, 14, 15, 18, 21, 22, 23, 26, 27, 28, 31, 34, 35, 38, 39, 40, 43, 46, 47, 48, 50, 51, 52, 55, 56, 59, 60, 61, 62, 65, 66, 68, 69, 70, 73, 74, 75, 76, 78, 80, 82, 85, 86, 89, 91, 92, 93, 96, 97, 98, 101, 104, 105, 106]
def h_X11_finger : List Nat := [0, 0, 1537, 0, 0, 0, 1819, 0, 0, 1823, 0, 0, 0, 0, 0, 0, 1678, 0, 0, 0, 0, 0, 1667, 0, 0, 0, 0, 0, 0, 1826, 0, 0, 0, 0, 0, 1538, 0, 0, 0, 0, 1812, 0, 0, 0, 0, 0, 0, 0, 0, 1538, 0, 0, 0, 1830, 0, 0, 0, 0, 0, 0]
def k_X11_doubt : List aI := [aO 0 0 1, aC 0 (.int 0), aO 20 11 0, aO 0 0 1, aO 0 0 1, aO 0 1 0, aV 233 2 [11], aO 15 11 1, aO 0 2 0, aV 234 1 [], aO 15 13 0, aC 0 (.int 1), aO 17 14 0, aC 0 (.int 0), aC 0 (.int 1), aV 178 3 [11], aO 15 29 1, aO 0 0 1, aO 0 3 0, aC 0 (.int (-1)), aC 1 (.int 7), aV 179 3 [], aO 15 25 1, aC 0 (.int 1), aO 17 26 0, aC 0 (.int 0), aC 0 (.int 2), aV 178 3 [11], aO 15 31 0, aC 0 (.int 0), aO 39 0 0, aC 0 (.int 0), aO 1 4 0, aC 0 (.int 0), aO 1 5 0, aO 0 5 0, aC 1 (.int 10), aO 16 56 3, aO 0 4 0, aO 0 5 0, aO 0 2 0, aO 16 51 0, aO 0 0 1, aO 0 1 0, aC 1 (.int 16), aO 0 5 0, aO 4 0 0, aV 232 3 [11], aO 15 51 2, aC 0 (.int 1), aO 17 52 0, aC 0 (.int 0), aO 4 0 0, aO 1 4 0, aN 5 1, aO 17 35 0, aO 0 4 0, aC 0 (.int 4), aO 16 61 1, aC 0 (.int 0), aO 39 0 0, aO 0 0 1, aO 19 11 1, aO 0 1 0, aC 1 (.int 16), aO 0 2 0, aO 4 0 0, aV 231 2 [], aO 0 3 0, aO 24 0 0, aC 0 (.int 1), aO 39 0 0]
def p_X11_doubt : List Nat := [0, 1, 2, 5, 6, 7, 8, 11, 14, 15, 18, 21, 22, 25, 26, 27, 30, 33, 34, 35, 36, 38, 41, 44, 45, 48, 49, 50, 53, 56, 57, 58, 59, 61, 62, 64, 66, 68, 71, 73, 75, 76, 79, 80, 81, 83, 85, 86, 89, 92, 93, 96, 97, 98, 100, 103, 106, 108, 109, 112, 113, 114, 115, 118, 119, 121, 122, 123, 126, 127, 128, 129, 130]
def h_X11_doubt : List Nat := [0, 0, 1537, 0, 0, 0, 1819, 0, 0, 1823, 0, 0, 0, 0, 0, 1667, 0, 0, 0, 0, 0, 1682, 0, 0, 0, 0, 0, 1667, 0, 0, 0, 0, 0, 0, 0, 0, 0, 0, 0, 0, 0, 0, 0, 0, 0, 0, 0, 1826, 0, 0, 0, 0, 0, 0, 0, 0, 0, 0, 0, 0, 0, 0, 1538, 0, 0, 0, 0, 1812, 0, 0, 0, 0]
def k_X11_ownClass : List aI := [aO 0 3 0, aO 0 2 0, aO 4 0 7, aC 0 (.int 1), aO 4 0 3, aC 0 (.int 1), aO 16 14 1, aO 0 0 1, aO 0 1 0, aC 1 (.int 16), aO 0 2 0, aO 4 0 0, aV 232 3 [11], aO 17 22 0, aO 0 0 1, aO 0 0 1, aO 0 1 0, aC 1 (.int 6), aO 0 2 0, aO 4 0 0, aV 232 3 [11], aV 212 2 [11], aO 39 0 0]
def p_X11_ownClass : List Nat := [0, 1, 2, 3, 4, 5, 6, 9, 10, 11, 13, 14, 15, 18, 21, 22, 23, 24, 26, 27, 28, 31, 34, 35]
def h_X11_ownClass : List Nat := [0, 0, 0, 0, 0, 0, 0, 0, 0, 0, 0, 0, 1826, 0, 0, 0, 0, 0, 0, 0, 1826, 1849, 0]
def k_X11_classOf : List aI := [aO 0 0 1, aO 0 1 0, aC 1 (.int 6), aO 0 2 0, aO 4 0 0, aV 232 3 [11], aO 15 13 2, aO 0 0 1, aO 0 1 0, aO 0 2 0, aO 0 3 0, aV 240 4 [11], aO 39 0 0, aO 0 2 0, aC 0 (.int 5), aO 4 0 0, aC 1 (.int 10), aO 5 0 1, aO 1 4 0, aO 0 0 1, aO 0 1 0, aC 1 (.int 6), aO 0 4 0, aO 4 0 0, aV 232 3 [11], aO 15 32 2, aO 0 0 1, aO 0 1 0, aO 0 4 0, aO 0 3 0, aV 240 4 [11], aO 17 33 0, aC 1 (.int 7), aO 39 0 0]
def p_X11_classOf : List Nat := [0, 1, 2, 4, 5, 6, 9, 12, 13, 14, 15, 16, 19, 20, 21, 22, 23, 25, 26, 28, 29, 30, 32, 34, 35, 38, 41, 42, 43, 45, 46, 49, 52, 54, 55]
def h_X11_classOf : List Nat := [0, 0, 0, 0, 0, 1826, 0, 0, 0, 0, 0, 1845, 0, 0, 0, 0, 0, 0, 0, 0, 0, 0, 0, 0, 1826, 0, 0, 0, 0, 0, 1845, 0, 0, 0]
def k_X11_kind : List aI := [aO 0 0 1, aC 0 (.int 0), aO 20 11 0, aO 0 0 1, aO 0 0 1, aO 0 1 0, aV 233 2 [11], aO 15 11 1, aO 0 2 0, aV 234 1 [], aO 15 13 0, aC 0 (.int 1), aO 17 14 0, aC 0 (.int 0), aC 0 (.int 1), aV 178 3 [11], aO 15 19 0, aC 0 (.int 0), aO 17 24 0, aO 0 0 1, aO 0 1 0, aO 0 2 0, aC 0 (.int 0), aV 241 4 [11], aO 39 0 0]
def p_X11_kind : List Nat := [0, 1, 2, 5, 6, 7, 8, 11, 14, 15, 18, 21, 22, 25, 26, 27, 30, 33, 34, 37, 38, 39, 40, 41, 44, 45]
def h_X11_kind : List Nat := [0, 0, 1537, 0, 0, 0, 1819, 0, 0, 1823, 0, 0, 0, 0, 0, 1667, 0, 0, 0, 0, 0, 0, 0, 1841, 0]
def k_X11_numberOf : List aI := [aC 0 (.int 0), aO 1 4 0, aC 0 (.int 0), aO 1 5 0, aO 0 5 0, aC 0 (.int 5), aO 16 25 3, aC 1 (.int 8), aO 0 4 0, aO 4 0 2, aO 0 0 1, aO 0 1 0, aO 0 3 0, aO 15 18 0, aO 0 5 0, aC 0 (.int 5), aO 4 0 0, aO 17 19 0, aO 0 5 0, aO 0 2 0, aV 241 4 [11], aO 4 0 0, aO 1 4 0, aN 5 1, aO 17 4 0, aO 0 4 0, aO 39 0 0]
def p_X11_numberOf : List Nat := [0, 1, 3, 4, 6, 8, 9, 12, 14, 16, 17, 18, 19, 20, 23, 25, 26, 27, 30, 32, 33, 36, 37, 39, 42, 45, 47, 48]
def h_X11_numberOf : List Nat := [0, 0, 0, 0, 0, 0, 0, 0, 0, 0, 0, 0, 0, 0, 0, 0, 0, 0, 0, 0, 1841, 0, 0, 0, 0, 0, 0]
def k_X11_number_ : List aI := [aO 0 0 1, aC 0 (.int 0), aO 20 11 0, aO 0 0 1, aO 0 0 1, aO 0 1 0, aV 233 2 [11], aC 0 (.int 1), aV 178 3 [11], aO 15 12 0, aC 0 (.int 0), aO 17 17 0, aO 0 0 1, aO 0 1 0, aC 0 (.int 0), aO 0 2 0, aV 243 4 [11], aO 39 0 0]
def p_X11_number_ : List Nat := [0, 1, 2, 5, 6, 7, 8, 11, 12, 15, 18, 19, 22, 23, 24, 25, 26, 29, 30]
def h_X11_number_ : List Nat := [0, 0, 1537, 0, 0, 0, 1819, 0, 1667, 0, 0, 0, 0, 0, 0, 0, 1857, 0]
def k_X11_reads : List aI := [aC 0 (.int 0), aO 1 3 0, aC 0 (.int 0), aO 1 4 0, aO 0 4 0, aC 1 (.int 10), aO 16 31 3, aO 0 3 0, aO 0 0 1, aO 0 1 0, aC 1 (.int 16), aO 0 4 0, aO 4 0 0, aV 232 3 [11], aO 15 26 2, aO 0 0 1, aO 0 1 0, aC 1 (.int 6), aO 0 4 0, aO 4 0 0, aV 232 3 [11], aO 15 26 2, aC 0 (.int 1), aO 0 4 0, aO 4 0 6, aO 17 27 0, aC 0 (.int 0), aO 4 0 4, aO 1 3 0, aN 4 1, aO 17 4 0, aC 0 (.int 0), aO 1 4 0, aO 0 3 0, aO 1 5 0, aO 0 5 0, aO 15 93 2, aO 0 0 1, aO 0 1 0, aO 0 5 0, aC 0 (.int 0), aV 243 4 [11], aO 6 0 0, aC 1 (.int 15), aO 11 0 0, aO 0 0 1, aO 0 1 0, aO 0 5 0, aC 0 (.int 1), aV 243 4 [11], aO 6 0 0, aO 8 0 3, aO 1 6 2, aC 0 (.int 0), aO 1 8 0, aC 0 (.int 0), aO 1 9 0, aO 0 9 0, aO 0 4 0, aO 16 74 3, aO 0 8 0, aO 15 68 1, aO 0 2 1, aO 0 9 0, aO 27 0 0, aO 0 6 2, aO 10 0 0, aO 15 70 1, aC 0 (.int 1), aO 17 71 0, aC 0 (.int 0), aO 1 8 0, aN 9 1, aO 17 57 0, aO 0 8 0, aO 15 77 0, aO 17 82 0, aO 0 2 1, aO 0 4 0, aO 0 6 2, aO 28 0 0, aN 4 1, aO 0 5 0, aO 15 86 1, aC 0 (.int (-1)), aO 17 91 0, aO 0 5 0, aC 0 (.int 1), aO 4 0 1, aO 0 3 0, aO 4 0 3, aO 1 5 0, aO 17 35 0, aO 0 4 0, aO 39 0 0]
def p_X11_reads : List Nat := [0, 1, 2, 3, 5, 7, 9, 12, 13, 14, 15, 17, 19, 20, 23, 26, 27, 28, 30, 32, 33, 36, 39, 40, 42, 43, 46, 47, 48, 49, 52, 55, 56, 58, 59, 61, 63, 66, 67, 68, 70, 71, 74, 75, 77, 78, 79, 80, 82, 83, 86, 87, 88, 90, 91, 93, 94, 96, 98, 100, 103, 105, 108, 109, 111, 112, 114, 115, 118, 119, 122, 123, 125, 128, 131, 133, 136, 139, 140, 142, 144, 145, 148, 150, 153, 154, 157, 159, 160, 161, 162, 163, 165, 168, 170, 171]
def h_X11_reads : List Nat := [0, 0, 0, 0, 0, 0, 0, 0, 0, 0, 0, 0, 0, 1826, 0, 0, 0, 0, 0, 0, 1826, 0, 0, 0, 0, 0, 0, 0, 0, 0, 0, 0, 0, 0, 0, 0, 0, 0, 0, 0, 0, 1857, 0, 0, 0, 0, 0, 0, 0, 1857, 0, 0, 0, 0, 0, 0, 0, 0, 0, 0, 0, 0, 0, 0, 0, 0, 0, 0, 0, 0, 0, 0, 0, 0, 0, 0, 0, 0, 0, 0, 0, 0, 0, 0, 0, 0, 0, 0, 0, 0, 0, 0, 0, 0, 0]
def k_X11_drawers : List aI := [aO 0 0 1, aC 0 (.int 0), aO 20 11 0, aO 0 0 1, aO 0 0 1, aO 0 1 0, aV 233 2 [11], aC 0 (.int 1), aV 178 3 [11], aO 15 12 0, aC 0 (.int 0), aO 17 17 0, aO 0 0 1, aO 0 1 0, aO 0 0 1, aO 19 11 21, aV 245 3 [11], aO 39 0 0]
def p_X11_drawers : List Nat := [0, 1, 2, 5, 6, 7, 8, 11, 12, 15, 18, 19, 22, 23, 24, 25, 28, 31, 32]
def h_X11_drawers : List Nat := [0, 0, 1537, 0, 0, 0, 1819, 0, 1667, 0, 0, 0, 0, 0, 0, 1558, 1865, 0]
def k_X11_like : List aI := [aO 0 0 1, aC 0 (.int 0), aO 20 11 0, aO 0 0 1, aO 0 0 1, aO 0 1 0, aV 233 2 [11], aC 0 (.int 1), aV 178 3 [11], aO 15 12 0, aC 0 (.int 0), aO 39 0 0, aO 0 0 1, aO 0 1 0, aO 0 0 1, aO 19 11 21, aV 245 3 [11], aO 1 3 0, aC 0 (.int 0), aO 1 4 0, aC 0 (.int 0), aO 1 5 0, aO 0 5 0, aO 0 0 1, aO 19 11 1, aC 2 (.int 6606), aO 23 0 0, aO 16 84 3, aO 0 5 0, aO 0 1 0, aO 16 82 0, aO 0 0 1, aO 0 5 0, aV 235 2 [11], aO 15 36 1, aO 17 82 0, aO 0 0 1, aO 0 5 0, aO 0 0 1, aO 19 11 22, aV 245 3 [11], aO 1 6 0, aC 0 (.int 0), aO 1 7 0, aC 0 (.int 0), aO 1 8 0, aO 0 8 0, aO 0 3 0, aO 0 6 0, aO 4 0 2, aO 16 73 3, aO 0 7 0, aO 15 67 1, aO 0 0 1, aO 19 11 21, aO 0 8 0, aO 0 6 0, aO 5 0 0, aO 27 0 0, aO 0 0 1, aO 19 11 22, aO 0 8 0, aO 0 6 0, aO 5 0 1, aO 27 0 0, aO 10 0 0, aO 15 69 1, aC 0 (.int 1), aO 17 70 0, aC 0 (.int 0), aO 1 7 0, aN 8 1, aO 17 46 0, aO 0 7 0, aO 15 76 1, aO 17 82 0, aO 0 4 0, aO 0 2 0, aO 16 81 1, aO 0 5 0, aO 39 0 0, aN 4 1, aN 5 1, aO 17 22 0, aC 0 (.int (-1)), aO 39 0 0]
def p_X11_like : List Nat := [0, 1, 2, 5, 6, 7, 8, 11, 12, 15, 18, 19, 20, 21, 22, 23, 26, 29, 30, 31, 33, 34, 36, 38, 39, 42, 45, 46, 49, 51, 52, 55, 56, 58, 61, 64, 67, 68, 70, 71, 74, 77, 79, 80, 82, 83, 85, 87, 88, 90, 91, 94, 96, 99, 100, 103, 105, 107, 108, 109, 110, 113, 115, 117, 118, 119, 120, 123, 124, 127, 128, 130, 133, 136, 138, 141, 144, 146, 147, 150, 152, 153, 156, 159, 162, 163, 164]
def h_X11_like : List Nat := [0, 0, 1537, 0, 0, 0, 1819, 0, 1667, 0, 0, 0, 0, 0, 0, 1558, 1865, 0, 0, 0, 0, 0, 0, 0, 1538, 0, 0, 0, 0, 0, 0, 0, 0, 1873, 0, 0, 0, 0, 0, 1559, 1865, 0, 0, 0, 0, 0, 0, 0, 0, 0, 0, 0, 0, 0, 1558, 0, 0, 0, 0, 0, 1559, 0, 0, 0, 0, 0, 0, 0, 0, 0, 0, 0, 0, 0, 0, 0, 0, 0, 0, 0, 0, 0, 0, 0, 0, 0]
def k_X11_textAt : List aI := [aC 2 (.int 12826), aC 2 (.int 850), aO 0 0 0, aO 4 0 2, aO 4 0 0, aO 39 0 0]
def p_X11_textAt : List Nat := [0, 3, 6, 7, 8, 9, 10]
def h_X11_textAt : List Nat := [0, 0, 0, 0, 0, 0]
def k_X11_ruleAt : List aI := [aO 0 0 0, aV 248 1 [], aC 0 (.int 2), aO 4 0 0, aC 0 (.int 4), aO 0 1 0, aO 4 0 2, aO 4 0 0, aO 39 0 0]
def p_X11_ruleAt : List Nat := [0, 1, 4, 5, 6, 7, 8, 9, 10, 11]
def h_X11_ruleAt : List Nat := [0, 1896, 0, 0, 0, 0, 0, 0, 0]
def k_X11_emits : List aI := [aC 1 (.int 10), aV 248 1 [], aC 1 (.int 50), aO 4 0 0, aC 0 (.int 2), aO 0 0 1, aO 19 11 23, aO 4 0 2, aO 4 0 0, aO 1 3 0, aO 0 0 1, aO 19 11 1, aO 0 3 0, aO 0 1 0, aO 24 0 0, aO 0 0 1, aO 19 11 1, aO 0 3 0, aC 0 (.int 1), aO 4 0 0, aO 0 2 0, aO 24 0 0, aO 0 0 1, aO 12 0 0, aO 19 11 23, aC 0 (.int 1), aO 4 0 0, aO 20 11 23, aO 39 0 3]
def p_X11_emits : List Nat := [0, 2, 5, 7, 8, 9, 10, 13, 14, 15, 16, 17, 20, 21, 22, 23, 24, 27, 28, 29, 30, 31, 32, 33, 34, 37, 38, 39, 42, 43]
def h_X11_emits : List Nat := [0, 1896, 0, 0, 0, 0, 1560, 0, 0, 0, 0, 1538, 0, 0, 0, 0, 1538, 0, 0, 0, 0, 0, 0, 0, 1560, 0, 0, 1560, 0]
def k_X11_readAtom : List aI := [aO 0 0 1, aC 1 (.int 40), aV 192 2 [11], aO 15 31 0, aO 0 0 1, aO 19 11 9, aC 1 (.int 6), aO 16 10 1, aC 0 (.int 0), aO 39 0 0, aO 0 0 1, aO 12 0 0, aO 19 11 9, aC 0 (.int 1), aO 4 0 0, aO 20 11 9, aO 0 0 1, aV 253 1 [11], aO 15 21 1, aC 0 (.int 0), aO 39 0 0, aO 0 0 1, aO 12 0 0, aO 19 11 9, aC 0 (.int 1), aO 4 0 1, aO 20 11 9, aO 0 0 1, aC 1 (.int 41), aV 192 2 [11], aO 39 0 0, aO 0 0 1, aO 40 8 0, aV 191 2 [11], aO 15 64 0, aO 0 0 1, aO 19 11 9, aC 1 (.int 6), aO 16 41 1, aC 0 (.int 0), aO 39 0 0, aO 0 0 1, aO 12 0 0, aO 19 11 9, aC 0 (.int 1), aO 4 0 0, aO 20 11 9, aO 0 0 1, aV 251 1 [11], aO 15 52 1, aC 0 (.int 0), aO 39 0 0, aO 0 0 1, aO 12 0 0, aO 19 11 9, aC 0 (.int 1), aO 4 0 1, aO 20 11 9, aO 0 0 1, aC 2 (.int 300), aC 0 (.int 0), aV 250 3 [11], aC 0 (.int 1), aO 39 0 0, aO 0 0 1, aV 189 1 [11], aO 0 0 1, aO 40 9 0, aV 190 2 [11], aO 15 72 0, aC 0 (.int 0), aO 17 91 0, aO 0 0 1, aO 40 10 0, aV 190 2 [11], aO 15 78 0, aC 0 (.int 1), aO 17 91 0, aO 0 0 1, aO 40 11 0, aV 190 2 [11], aO 15 84 0, aC 0 (.int 2), aO 17 91 0, aO 0 0 1, aO 40 12 0, aV 190 2 [11], aO 15 90 0, aC 0 (.int 3), aO 17 91 0, aC 0 (.int (-1)), aO 1 1 0, aO 0 1 0, aO 15 100 2, aO 0 0 1, aO 0 1 0, aC 0 (.int 0), aV 250 3 [11], aC 0 (.int 1), aO 39 0 0, aO 0 0 1, aO 40 13 0, aV 190 2 [11], aO 15 106 0, aC 0 (.int 0), aO 17 131 0, aO 0 0 1, aO 40 14 0, aV 190 2 [11], aO 15 112 0, aC 0 (.int 1), aO 17 131 0, aO 0 0 1, aO 40 15 0, aV 190 2 [11], aO 15 118 0, aC 0 (.int 2), aO 17 131 0, aO 0 0 1, aO 40 16 0, aV 190 2 [11], aO 15 124 0, aC 0 (.int 3), aO 17 131 0, aO 0 0 1, aO 40 17 0, aV 190 2 [11], aO 15 130 0, aC 0 (.int 4), aO 17 131 0, aC 0 (.int (-1)), aO 1 2 0, aO 0 2 0, aO 15 136 3, aC 0 (.int 0), aO 39 0 0, aO 0 0 1, aC 1 (.int 60), aV 192 2 [11], aO 1 3 0, aO 0 3 0, aO 15 148 1, aO 0 0 1, aC 1 (.int 62), aV 192 2 [11], aO 15 148 1, aC 0 (.int 0), aO 39 0 0, aO 0 0 1, aC 0 (.int 0), aC 2 (.int 9999), aV 193 3 [11], aO 1 4 0, aO 0 4 0, aO 15 157 3, aC 0 (.int 0), aO 39 0 0, aO 0 0 1, aO 0 3 0, aO 15 162 0, aC 1 (.int 100), aO 17 163 0, aC 2 (.int 200), aO 0 2 0, aO 4 0 0, aO 0 4 0, aV 250 3 [11], aC 0 (.int 1), aO 39 0 0]
def p_X11_readAtom : List Nat := [0, 1, 3, 6, 9, 10, 13, 15, 18, 19, 20, 21, 22, 25, 26, 27, 30, 31, 34, 37, 38, 39, 40, 41, 44, 45, 46, 49, 50, 52, 55, 56, 57, 60, 63, 66, 67, 70, 72, 75, 76, 77, 78, 79, 82, 83, 84, 87, 88, 91, 94, 95, 96, 97, 98, 101, 102, 103, 106, 107, 110, 111, 114, 115, 116, 117, 120, 121, 124, 127, 130, 131, 134, 135, 138, 141, 144, 145, 148, 149, 152, 155, 158, 159, 162, 163, 166, 169, 172, 173, 176, 177, 178, 179, 182, 183, 184, 185, 188, 189, 190, 191, 194, 197, 200, 201, 204, 205, 208, 211, 214, 215, 218, 219, 222, 225, 228, 229, 232, 233, 236, 239, 242, 243, 246, 247, 250, 253, 256, 257, 260, 261, 262, 263, 266, 267, 268, 269, 271, 274, 275, 276, 279, 280, 282, 285, 288, 289, 290, 291, 292, 295, 298, 300, 302, 305, 306, 307, 308, 309, 312, 314, 317, 320, 321, 322, 324, 327, 328, 329]
def h_X11_readAtom : List Nat := [0, 0, 1655, 0, 0, 1546, 0, 0, 0, 0, 0, 0, 1546, 0, 0, 1546, 0, 1920, 0, 0, 0, 0, 0, 1546, 0, 0, 1546, 0, 0, 1655, 0, 0, 33, 1916, 0, 0, 1546, 0, 0, 0, 0, 0, 0, 1546, 0, 0, 1546, 0, 1928, 0, 0, 0, 0, 0, 1546, 0, 0, 1546, 0, 0, 0, 1933, 0, 0, 0, 1889, 0, 34, 1900, 0, 0, 0, 0, 35, 1900, 0, 0, 0, 0, 36, 1900, 0, 0, 0, 0, 37, 1900, 0, 0, 0, 0, 0, 0, 0, 0, 0, 0, 1933, 0, 0, 0, 38, 1900, 0, 0, 0, 0, 39, 1900, 0, 0, 0, 0, 40, 1900, 0, 0, 0, 0, 41, 1900, 0, 0, 0, 0, 42, 1900, 0, 0, 0, 0, 0, 0, 0, 0, 0, 0, 0, 1655, 0, 0, 0, 0, 0, 1655, 0, 0, 0, 0, 0, 0, 1911, 0, 0, 0, 0, 0, 0, 0, 0, 0, 0, 0, 0, 0, 0, 1933, 0, 0]
def k_X11_readAllOf : List aI := [aO 0 0 1, aV 251 1 [11], aO 15 5 1, aC 0 (.int 0), aO 39 0 0, aO 0 0 1, aO 40 18 0, aV 191 2 [11], aO 15 19 0, aO 0 0 1, aV 251 1 [11], aO 15 14 1, aC 0 (.int 0), aO 39 0 0, aO 0 0 1, aC 2 (.int 301), aC 0 (.int 0), aV 250 3 [11], aO 17 5 0, aC 0 (.int 1), aO 39 0 0]
def p_X11_readAllOf : List Nat := [0, 1, 4, 7, 8, 9, 10, 13, 16, 19, 20, 23, 26, 27, 28, 29, 32, 33, 36, 39, 40, 41]
def h_X11_readAllOf : List Nat := [0, 1928, 0, 0, 0, 0, 43, 1916, 0, 0, 1928, 0, 0, 0, 0, 0, 0, 1933, 0, 0, 0]
def k_X11_readCond : List aI := [aO 0 0 1, aV 252 1 [11], aO 15 5 1, aC 0 (.int 0), aO 39 0 0, aO 0 0 1, aO 40 19 0, aV 191 2 [11], aO 15 19 0, aO 0 0 1, aV 252 1 [11], aO 15 14 1, aC 0 (.int 0), aO 39 0 0, aO 0 0 1, aC 2 (.int 302), aC 0 (.int 0), aV 250 3 [11], aO 17 5 0, aC 0 (.int 1), aO 39 0 0]
def p_X11_readCond : List Nat := [0, 1, 4, 7, 8, 9, 10, 13, 16, 19, 20, 23, 26, 27, 28, 29, 32, 33, 36, 39, 40, 41]
def h_X11_readCond : List Nat := [0, 1924, 0, 0, 0, 0, 44, 1916, 0, 0, 1924, 0, 0, 0, 0, 0, 0, 1933, 0, 0, 0]
def k_X11_readRule : List aI := [aO 0 0 1, aV 189 1 [11], aO 0 1 0, aC 1 (.int 12), aO 16 7 1, aC 0 (.int 0), aO 39 0 0, aC 1 (.int 10), aO 0 1 0, aV 249 2 [], aO 1 2 0, aO 0 0 1, aO 40 1 0, aV 190 2 [11], aO 15 17 0, aC 0 (.int 0), aO 17 48 0, aO 0 0 1, aO 40 2 0, aV 190 2 [11], aO 15 23 0, aC 0 (.int 1), aO 17 48 0, aO 0 0 1, aO 40 3 0, aV 190 2 [11], aO 15 29 0, aC 0 (.int 2), aO 17 48 0, aO 0 0 1, aO 40 4 0, aV 190 2 [11], aO 15 35 0, aC 0 (.int 3), aO 17 48 0, aO 0 0 1, aO 40 5 0, aV 190 2 [11], aO 15 41 0, aC 0 (.int 4), aO 17 48 0, aO 0 0 1, aO 40 6 0, aV 190 2 [11], aO 15 47 0, aC 0 (.int 5), aO 17 48 0, aC 0 (.int (-1)), aO 1 3 0, aO 0 0 1, aO 19 11 1, aO 0 2 0, aO 0 3 0, aO 24 0 0, aO 0 0 1, aO 19 11 1, aO 0 2 0, aC 0 (.int 1), aO 4 0 0, aC 0 (.int 0), aO 24 0 0, aO 0 0 1, aO 19 11 1, aO 0 2 0, aC 0 (.int 2), aO 4 0 0, aO 0 0 1, aO 19 11 23, aO 24 0 0, aO 0 0 1, aO 19 11 1, aO 0 2 0, aC 0 (.int 3), aO 4 0 0, aO 0 0 1, aO 19 11 23, aO 24 0 0, aO 0 3 0, aO 15 81 3, aC 0 (.int 0), aO 39 0 0, aO 0 3 0, aC 0 (.int 2), aC 0 (.int 4), aV 179 3 [], aO 15 125 0, aO 0 0 1, aO 19 11 1, aO 0 2 0, aC 0 (.int 1), aO 4 0 0, aO 0 0 1, aO 0 3 0, aC 0 (.int 4), aO 16 97 1, aC 0 (.int 0), aO 17 98 0, aC 0 (.int 1), aO 0 3 0, aC 0 (.int 2), aO 16 103 1, aC 1 (.int 6), aO 17 109 0, aO 0 3 0, aC 0 (.int 3), aO 16 108 1, aC 1 (.int 10), aO 17 109 0, aC 2 (.int 9999), aV 193 3 [11], aO 24 0 0, aO 0 0 1, aO 19 11 1, aO 0 2 0, aC 0 (.int 1), aO 4 0 0, aO 23 0 0, aO 15 120 3, aC 0 (.int 0), aO 39 0 0, aO 0 3 0, aC 0 (.int 4), aO 16 125 0, aC 0 (.int 1), aO 39 0 0, aO 0 0 1, aO 40 7 0, aV 191 2 [11], aO 15 147 0, aO 0 0 1, aC 0 (.int 0), aO 20 11 9, aO 0 0 1, aV 253 1 [11], aO 15 137 1, aC 0 (.int 0), aO 39 0 0, aO 0 0 1, aO 19 11 1, aO 0 2 0, aC 0 (.int 3), aO 4 0 0, aO 0 0 1, aO 19 11 23, aO 24 0 0, aC 0 (.int 1), aO 39 0 0, aO 0 3 0, aC 0 (.int 4), aO 16 152 1, aC 0 (.int 1), aO 17 153 0, aC 0 (.int 0), aO 39 0 0]
def p_X11_readRule : List Nat := [0, 1, 4, 5, 7, 10, 11, 12, 14, 15, 18, 19, 20, 23, 26, 29, 30, 33, 34, 37, 40, 43, 44, 47, 48, 51, 54, 57, 58, 61, 62, 65, 68, 71, 72, 75, 76, 79, 82, 85, 86, 89, 90, 93, 96, 99, 100, 103, 104, 105, 106, 109, 110, 111, 112, 113, 116, 117, 118, 119, 120, 121, 122, 125, 126, 127, 128, 129, 132, 133, 134, 137, 138, 139, 140, 141, 144, 145, 146, 149, 150, 151, 152, 153, 154, 157, 160, 161, 164, 165, 166, 167, 168, 169, 170, 173, 174, 177, 178, 179, 180, 183, 185, 188, 189, 190, 193, 195, 198, 201, 204, 205, 206, 209, 210, 211, 212, 213, 216, 217, 218, 219, 220, 223, 224, 225, 226, 229, 232, 235, 236, 237, 240, 241, 244, 247, 248, 249, 250, 253, 254, 255, 256, 257, 260, 261, 262, 263, 264, 265, 268, 269, 272, 273, 274]
def h_X11_readRule : List Nat := [0, 1889, 0, 0, 0, 0, 0, 0, 0, 1893, 0, 0, 26, 1900, 0, 0, 0, 0, 27, 1900, 0, 0, 0, 0, 28, 1900, 0, 0, 0, 0, 29, 1900, 0, 0, 0, 0, 30, 1900, 0, 0, 0, 0, 31, 1900, 0, 0, 0, 0, 0, 0, 1538, 0, 0, 0, 0, 1538, 0, 0, 0, 0, 0, 0, 1538, 0, 0, 0, 0, 1560, 0, 0, 1538, 0, 0, 0, 0, 1560, 0, 0, 0, 0, 0, 0, 0, 0, 1682, 0, 0, 1538, 0, 0, 0, 0, 0, 0, 0, 0, 0, 0, 0, 0, 0, 0, 0, 0, 0, 0, 0, 0, 0, 1911, 0, 0, 1538, 0, 0, 0, 0, 0, 0, 0, 0, 0, 0, 0, 0, 0, 32, 1916, 0, 0, 0, 1546, 0, 1920, 0, 0, 0, 0, 1538, 0, 0, 0, 0, 1560, 0, 0, 0, 0, 0, 0, 0, 0, 0, 0]
def k_X11_readAll : List aI := [aO 0 0 1, aC 0 (.int 0), aO 20 11 23, aO 0 0 1, aV 188 1 [11], aO 0 0 1, aO 19 11 6, aO 0 0 1, aO 19 11 7, aO 16 12 1, aC 0 (.int 0), aO 39 0 0, aC 0 (.int 0), aO 1 1 0, aO 0 0 1, aO 0 1 0, aV 254 2 [11], aO 15 20 1, aC 0 (.int (-1)), aO 39 0 0, aO 0 0 1, aV 188 1 [11], aO 0 0 1, aO 19 11 6, aO 0 0 1, aO 19 11 7, aO 16 31 1, aO 0 1 0, aC 0 (.int 1), aO 4 0 0, aO 39 0 0, aO 0 0 1, aC 1 (.int 59), aC 1 (.int 59), aV 187 3 [11], aO 15 38 1, aC 0 (.int (-1)), aO 39 0 0, aO 0 0 1, aO 12 0 0, aO 19 11 6, aC 0 (.int 1), aO 4 0 0, aO 20 11 6, aN 1 1, aO 17 14 0]
def p_X11_readAll : List Nat := [0, 1, 2, 5, 6, 9, 10, 13, 14, 17, 20, 21, 22, 23, 24, 25, 26, 29, 32, 33, 34, 35, 38, 39, 42, 43, 46, 49, 50, 51, 52, 53, 54, 56, 58, 61, 64, 65, 66, 67, 68, 71, 72, 73, 76, 79, 82]
def h_X11_readAll : List Nat := [0, 0, 1560, 0, 1659, 0, 1543, 0, 1544, 0, 0, 0, 0, 0, 0, 0, 1885, 0, 0, 0, 0, 1659, 0, 1543, 0, 1544, 0, 0, 0, 0, 0, 0, 0, 0, 1663, 0, 0, 0, 0, 0, 1543, 0, 0, 1543, 0, 0]
def k_X11_rules : List aI := [aO 0 0 1, aV 186 1 [11], aO 0 0 1, aO 0 1 0, aO 0 0 1, aV 181 1 [11], aC 2 (.int 2000), aV 179 3 [], aO 15 11 1, aC 0 (.int 1), aO 17 12 0, aC 0 (.int 0), aC 0 (.int 1), aV 178 3 [11], aO 15 17 0, aC 0 (.int 0), aO 39 0 0, aO 0 0 1, aV 255 1 [11], aO 1 2 0, aO 0 0 1, aO 0 2 0, aO 15 26 3, aO 0 0 1, aO 19 11 8, aO 17 27 0, aC 0 (.int (-1)), aO 20 11 10, aO 0 0 1, aO 0 2 0, aO 15 33 3, aC 0 (.int 1), aO 17 34 0, aC 0 (.int 0), aC 0 (.int 1), aV 178 3 [11], aO 15 50 1, aO 0 0 1, aO 0 0 1, aO 19 11 1, aC 2 (.int 12825), aO 23 0 0, aC 1 (.int 10), aO 16 46 1, aC 0 (.int 1), aO 17 47 0, aC 0 (.int 0), aC 0 (.int 2), aV 178 3 [11], aO 15 52 0, aC 0 (.int 0), aO 39 0 0, aO 0 0 1, aO 19 11 1, aC 2 (.int 12825), aO 23 0 0, aO 1 3 0, aO 0 0 1, aO 19 11 1, aC 2 (.int 12825), aO 12 0 1, aO 23 0 0, aC 0 (.int 1), aO 4 0 0, aO 24 0 0, aC 0 (.int 0), aO 1 4 0, aO 0 4 0, aC 2 (.int 850), aO 16 86 3, aO 0 0 1, aO 19 11 1, aO 0 3 0, aV 248 1 [], aO 0 4 0, aO 4 0 0, aO 0 0 1, aO 19 11 1, aC 1 (.int 10), aV 248 1 [], aO 0 4 0, aO 4 0 0, aO 23 0 0, aO 24 0 0, aN 4 1, aO 17 67 0, aO 0 0 1, aO 19 11 1, aO 0 3 0, aV 248 1 [], aO 0 1 0, aO 24 0 0, aO 0 0 1, aO 19 11 1, aO 0 3 0, aV 248 1 [], aC 0 (.int 1), aO 4 0 0, aO 0 2 0, aO 24 0 0, aO 0 2 0, aO 39 0 0]
def p_X11_rules : List Nat := [0, 1, 4, 5, 6, 7, 10, 13, 16, 19, 20, 23, 24, 25, 28, 31, 32, 33, 34, 37, 38, 39, 40, 43, 44, 47, 50, 51, 54, 55, 56, 59, 60, 63, 64, 65, 68, 71, 72, 73, 76, 79, 80, 82, 85, 86, 89, 90, 91, 94, 97, 98, 99, 100, 103, 106, 107, 108, 109, 112, 115, 116, 117, 118, 119, 120, 121, 123, 125, 128, 131, 132, 135, 136, 139, 141, 142, 143, 146, 148, 151, 153, 154, 155, 156, 159, 162, 163, 166, 167, 170, 171, 172, 173, 176, 177, 180, 181, 182, 183, 184, 185, 186]
def h_X11_rules : List Nat := [0, 1647, 0, 0, 0, 1753, 0, 1682, 0, 0, 0, 0, 0, 1667, 0, 0, 0, 0, 1881, 0, 0, 0, 0, 0, 1545, 0, 0, 1547, 0, 0, 0, 0, 0, 0, 0, 1667, 0, 0, 0, 1538, 0, 0, 0, 0, 0, 0, 0, 0, 1667, 0, 0, 0, 0, 1538, 0, 0, 0, 0, 1538, 0, 0, 0, 0, 0, 0, 0, 0, 0, 0, 0, 0, 1538, 0, 1896, 0, 0, 0, 1538, 0, 1896, 0, 0, 0, 0, 0, 0, 0, 1538, 0, 1896, 0, 0, 0, 1538, 0, 1896, 0, 0, 0, 0, 0, 0]
def k_X11_textOf : List aI := [aC 0 (.int (-1)), aO 1 2 0, aC 0 (.int 0), aO 1 3 0, aO 0 3 0, aO 0 0 1, aO 19 11 1, aC 2 (.int 12825), aO 23 0 0, aO 16 34 3, aO 0 0 1, aO 19 11 1, aO 0 3 0, aV 248 1 [], aO 23 0 0, aO 0 1 0, aO 16 32 4, aO 0 2 0, aO 15 30 2, aO 0 0 1, aO 19 11 1, aO 0 3 0, aV 248 1 [], aO 23 0 0, aO 0 0 1, aO 19 11 1, aO 0 2 0, aV 248 1 [], aO 23 0 0, aO 16 32 2, aO 0 3 0, aO 1 2 0, aN 3 1, aO 17 4 0, aO 0 2 0, aO 39 0 0]
def p_X11_textOf : List Nat := [0, 1, 2, 3, 4, 5, 6, 9, 12, 13, 16, 17, 20, 21, 24, 25, 26, 29, 30, 33, 34, 37, 38, 41, 42, 43, 46, 47, 50, 51, 54, 55, 56, 59, 62, 63, 64]
def h_X11_textOf : List Nat := [0, 0, 0, 0, 0, 0, 1538, 0, 0, 0, 0, 1538, 0, 1896, 0, 0, 0, 0, 0, 0, 1538, 0, 1896, 0, 0, 1538, 0, 1896, 0, 0, 0, 0, 0, 0, 0, 0]
def k_X11_rulesOf : List aI := [aO 0 1 0, aO 15 4 3, aC 0 (.int 0), aO 17 11 0, aO 0 0 1, aO 19 11 1, aO 0 1 0, aV 248 1 [], aC 0 (.int 1), aO 4 0 0, aO 23 0 0, aO 39 0 0]
def p_X11_rulesOf : List Nat := [0, 1, 4, 5, 8, 9, 12, 13, 16, 17, 18, 19, 20]
def h_X11_rulesOf : List Nat := [0, 0, 0, 0, 0, 1538, 0, 1896, 0, 0, 0, 0]
def k_X11_holds : List aI := [aO 0 1 0, aO 0 2 0, aV 249 2 [], aO 1 3 0, aC 0 (.int 0), aO 1 4 0, aO 0 0 1, aO 19 11 1, aO 0 3 0, aC 0 (.int 2), aO 4 0 0, aO 23 0 0, aO 1 5 0, aO 0 5 0, aO 0 0 1, aO 19 11 1, aO 0 3 0, aC 0 (.int 3), aO 4 0 0, aO 23 0 0, aO 16 153 3, aO 0 0 1, aO 19 11 1, aO 0 1 0, aV 248 1 [], aC 1 (.int 50), aO 4 0 0, aC 0 (.int 2), aO 0 5 0, aO 4 0 2, aO 4 0 0, aO 23 0 0, aO 1 6 0, aO 0 0 1, aO 19 11 1, aO 0 1 0, aV 248 1 [], aC 1 (.int 50), aO 4 0 0, aC 0 (.int 2), aO 0 5 0, aO 4 0 2, aO 4 0 0, aC 0 (.int 1), aO 4 0 0, aO 23 0 0, aO 1 7 0, aO 0 6 0, aC 2 (.int 300), aO 16 67 1, aO 0 0 1, aO 19 11 26, aO 0 4 0, aC 0 (.int 1), aO 4 0 1, aO 0 0 1, aO 19 11 26, aO 0 4 0, aC 0 (.int 1), aO 4 0 1, aO 25 0 0, aO 15 64 1, aC 0 (.int 1), aO 17 65 0, aC 0 (.int 0), aO 26 0 0, aO 17 151 0, aO 0 6 0, aC 2 (.int 301), aO 16 112 2, aN 4 (-1), aO 0 0 1, aO 19 11 26, aO 0 4 0, aC 0 (.int 1), aO 4 0 1, aO 0 6 0, aC 2 (.int 301), aO 16 95 1, aO 0 0 1, aO 19 11 26, aO 0 4 0, aC 0 (.int 1), aO 4 0 1, aO 25 0 0, aO 15 93 0, aO 0 0 1, aO 19 11 26, aO 0 4 0, aO 25 0 0, aO 15 93 0, aC 0 (.int 1), aO 17 110 0, aC 0 (.int 0), aO 17 110 0, aO 0 0 1, aO 19 11 26, aO 0 4 0, aC 0 (.int 1), aO 4 0 1, aO 25 0 0, aO 15 107 1, aO 0 0 1, aO 19 11 26, aO 0 4 0, aO 25 0 0, aO 15 109 0, aC 0 (.int 1), aO 17 110 0, aC 0 (.int 0), aO 26 0 0, aO 17 151 0, aO 0 0 1, aO 19 11 26, aO 0 4 0, aO 0 6 0, aC 0 (.int 4), aO 16 123 3, aO 0 0 1, aO 19 11 24, aO 0 6 0, aO 25 0 0, aO 17 149 0, aO 0 6 0, aC 2 (.int 200), aO 16 138 3, aO 0 0 1, aO 19 11 25, aO 0 6 0, aC 1 (.int 100), aO 4 0 1, aO 23 0 0, aO 0 7 0, aO 16 136 3, aC 0 (.int 1), aO 17 149 0, aC 0 (.int 0), aO 17 149 0, aO 0 0 1, aO 19 11 25, aO 0 6 0, aC 2 (.int 200), aO 4 0 1, aO 23 0 0, aO 0 7 0, aO 16 148 5, aC 0 (.int 1), aO 17 149 0, aC 0 (.int 0), aO 26 0 0, aN 4 1, aN 5 1, aO 17 13 0, aO 0 4 0, aO 15 160 0, aO 0 0 1, aO 19 11 26, aC 0 (.int 0), aO 25 0 0, aO 15 162 0, aC 0 (.int 1), aO 17 163 0, aC 0 (.int 0), aO 39 0 0]
def p_X11_holds : List Nat := [0, 1, 2, 5, 6, 7, 9, 10, 13, 14, 15, 16, 17, 19, 21, 22, 25, 26, 27, 28, 29, 32, 33, 36, 37, 40, 42, 43, 44, 46, 47, 48, 49, 51, 52, 55, 56, 59, 61, 62, 63, 65, 66, 67, 68, 69, 70, 72, 74, 77, 80, 81, 84, 86, 87, 88, 89, 92, 94, 95, 96, 97, 100, 101, 104, 105, 106, 109, 111, 114, 117, 120, 121, 124, 126, 127, 128, 130, 133, 136, 137, 140, 142, 143, 144, 145, 148, 149, 152, 154, 155, 158, 159, 162, 163, 166, 167, 170, 172, 173, 174, 175, 178, 179, 182, 184, 185, 188, 189, 192, 193, 194, 197, 198, 201, 203, 205, 206, 209, 210, 213, 215, 216, 219, 221, 224, 227, 228, 231, 233, 235, 236, 237, 239, 242, 243, 246, 247, 250, 251, 254, 256, 259, 260, 261, 263, 266, 267, 270, 271, 272, 275, 278, 281, 283, 286, 287, 290, 291, 292, 295, 296, 299, 300, 301]
def h_X11_holds : List Nat := [0, 0, 1893, 0, 0, 0, 0, 1538, 0, 0, 0, 0, 0, 0, 0, 1538, 0, 0, 0, 0, 0, 0, 1538, 0, 1896, 0, 0, 0, 0, 0, 0, 0, 0, 0, 1538, 0, 1896, 0, 0, 0, 0, 0, 0, 0, 0, 0, 0, 0, 0, 0, 0, 1563, 0, 0, 0, 0, 1563, 0, 0, 0, 0, 0, 0, 0, 0, 0, 0, 0, 0, 0, 0, 0, 1563, 0, 0, 0, 0, 0, 0, 0, 1563, 0, 0, 0, 0, 0, 0, 1563, 0, 0, 0, 0, 0, 0, 0, 0, 1563, 0, 0, 0, 0, 0, 0, 1563, 0, 0, 0, 0, 0, 0, 0, 0, 0, 1563, 0, 0, 0, 0, 0, 1561, 0, 0, 0, 0, 0, 0, 0, 1562, 0, 0, 0, 0, 0, 0, 0, 0, 0, 0, 0, 1562, 0, 0, 0, 0, 0, 0, 0, 0, 0, 0, 0, 0, 0, 0, 0, 0, 1563, 0, 0, 0, 0, 0, 0, 0]
def k_X11_firstOf : List aI := [aC 0 (.int 0), aO 1 3 0, aO 0 3 0, aO 0 0 1, aO 0 1 0, aV 258 2 [11], aO 16 24 3, aO 0 0 1, aO 19 11 1, aO 0 1 0, aO 0 3 0, aV 249 2 [], aO 23 0 0, aO 0 2 0, aO 16 22 1, aO 0 0 1, aO 0 1 0, aO 0 3 0, aV 259 3 [11], aO 15 22 0, aO 0 3 0, aO 39 0 0, aN 3 1, aO 17 2 0, aC 0 (.int (-1)), aO 39 0 0]
def p_X11_firstOf : List Nat := [0, 1, 2, 3, 4, 5, 8, 11, 12, 15, 16, 17, 20, 21, 22, 25, 26, 27, 28, 31, 34, 35, 36, 39, 42, 43, 44]
def h_X11_firstOf : List Nat := [0, 0, 0, 0, 0, 1972, 0, 0, 1538, 0, 0, 1893, 0, 0, 0, 0, 0, 0, 1976, 0, 0, 0, 0, 0, 0, 0]
def k_X11_lastNumber : List aI := [aO 0 0 1, aO 0 1 0, aV 257 2 [11], aO 1 4 0, aO 0 3 0, aO 1 5 0, aC 0 (.int 0), aO 1 6 0, aO 0 6 0, aO 0 0 1, aO 0 4 0, aV 258 2 [11], aO 16 32 3, aO 0 0 1, aO 19 11 1, aO 0 4 0, aO 0 6 0, aV 249 2 [], aO 23 0 0, aO 0 2 0, aO 16 30 1, aO 0 0 1, aO 19 11 1, aO 0 4 0, aO 0 6 0, aV 249 2 [], aC 0 (.int 1), aO 4 0 0, aO 23 0 0, aO 1 5 0, aN 6 1, aO 17 8 0, aO 0 5 0, aO 39 0 0]
def p_X11_lastNumber : List Nat := [0, 1, 2, 5, 7, 8, 10, 11, 13, 15, 16, 18, 21, 24, 25, 28, 30, 32, 35, 36, 37, 40, 41, 44, 46, 48, 51, 52, 53, 54, 56, 59, 62, 64, 65]
def h_X11_lastNumber : List Nat := [0, 0, 1964, 0, 0, 0, 0, 0, 0, 0, 0, 1972, 0, 0, 1538, 0, 0, 1893, 0, 0, 0, 0, 1538, 0, 0, 1893, 0, 0, 0, 0, 0, 0, 0, 0]
def k_X11_looks : List aI := [aC 0 (.int 0), aO 1 6 0, aO 0 6 0, aC 0 (.int 4), aO 16 12 3, aO 0 0 1, aO 19 11 24, aO 0 6 0, aC 0 (.int 0), aO 26 0 0, aN 6 1, aO 17 2 0, aO 0 0 1, aO 19 11 25, aC 0 (.int 0), aO 0 1 0, aO 24 0 0, aO 0 0 1, aO 19 11 25, aC 0 (.int 1), aO 0 2 0, aO 24 0 0, aO 0 0 1, aO 19 11 25, aC 0 (.int 2), aO 0 3 0, aO 24 0 0, aO 0 0 1, aO 19 11 25, aC 0 (.int 3), aO 0 4 0, aO 24 0 0, aO 0 0 1, aO 19 11 25, aC 0 (.int 4), aO 0 5 0, aO 24 0 0, aO 39 0 3]
def p_X11_looks : List Nat := [0, 1, 3, 5, 6, 9, 10, 13, 15, 16, 17, 20, 23, 24, 27, 28, 29, 30, 31, 34, 35, 36, 37, 38, 41, 42, 43, 44, 45, 48, 49, 51, 52, 53, 56, 57, 59, 60, 61]
def h_X11_looks : List Nat := [0, 0, 0, 0, 0, 0, 1561, 0, 0, 0, 0, 0, 0, 1562, 0, 0, 0, 0, 1562, 0, 0, 0, 0, 1562, 0, 0, 0, 0, 1562, 0, 0, 0, 0, 1562, 0, 0, 0, 0]
def k_X11_looksAtLay : List aI := [aO 0 0 1, aO 0 1 0, aO 0 2 0, aV 229 3 [11], aO 0 0 1, aO 0 0 1, aO 19 11 13, aO 0 0 1, aO 19 11 14, aO 0 0 1, aO 19 11 1, aO 0 1 0, aC 1 (.int 6), aV 216 2 [], aO 23 0 0, aO 0 0 1, aO 0 2 0, aV 212 2 [11], aO 0 3 0, aO 0 0 1, aO 19 11 1, aO 0 1 0, aC 0 (.int 0), aV 216 2 [], aO 23 0 0, aO 4 0 1, aV 262 6 [11], aO 0 0 1, aO 19 11 24, aC 0 (.int 0), aO 0 0 1, aO 19 11 1, aO 0 1 0, aC 0 (.int 5), aV 216 2 [], aO 23 0 0, aC 0 (.int 1), aO 16 40 1, aC 0 (.int 1), aO 17 41 0, aC 0 (.int 0), aO 26 0 0, aO 39 0 3]
def p_X11_looksAtLay : List Nat := [0, 1, 2, 3, 6, 7, 8, 11, 12, 15, 16, 19, 20, 22, 25, 26, 27, 28, 31, 32, 33, 36, 37, 38, 41, 42, 43, 46, 47, 50, 51, 52, 55, 56, 57, 60, 61, 62, 65, 66, 69, 70, 71, 72]
def h_X11_looksAtLay : List Nat := [0, 0, 0, 1773, 0, 0, 1550, 0, 1551, 0, 1538, 0, 0, 1750, 0, 0, 0, 1849, 0, 0, 1538, 0, 0, 1750, 0, 0, 1956, 0, 1561, 0, 0, 1538, 0, 0, 1750, 0, 0, 0, 0, 0, 0, 0, 0]
def k_X11_judges : List aI := [aO 0 0 1, aO 0 0 1, aO 0 1 0, aV 257 2 [11], aC 0 (.int 0), aV 260 3 [11], aO 15 9 2, aC 0 (.int 2), aO 17 19 0, aO 0 0 1, aO 0 0 1, aO 0 1 0, aV 257 2 [11], aC 0 (.int 1), aV 260 3 [11], aO 15 18 2, aC 0 (.int 1), aO 17 19 0, aC 0 (.int 0), aO 39 0 0]
def p_X11_judges : List Nat := [0, 1, 2, 3, 6, 7, 10, 13, 14, 17, 18, 19, 20, 23, 24, 27, 30, 31, 34, 35, 36]
def h_X11_judges : List Nat := [0, 0, 0, 1964, 0, 1968, 0, 0, 0, 0, 0, 0, 1964, 0, 1968, 0, 0, 0, 0, 0]
def k_X11_verdict : List aI := [aO 0 0 1, aC 0 (.int 0), aO 20 11 0, aO 0 0 1, aO 0 0 1, aO 0 1 0, aV 217 2 [11], aO 15 12 1, aO 0 0 1, aO 0 2 0, aV 196 2 [11], aO 15 14 0, aC 0 (.int 1), aO 17 15 0, aC 0 (.int 0), aC 0 (.int 1), aV 178 3 [11], aO 15 20 0, aC 0 (.int 0), aO 39 0 0, aO 0 0 1, aO 0 1 0, aO 0 2 0, aO 0 3 0, aV 263 4 [11], aO 0 0 1, aO 0 3 0, aV 264 2 [11], aO 39 0 0]
def p_X11_verdict : List Nat := [0, 1, 2, 5, 6, 7, 8, 11, 14, 15, 16, 19, 22, 23, 26, 27, 28, 31, 34, 35, 36, 37, 38, 39, 40, 43, 44, 45, 48, 49]
def h_X11_verdict : List Nat := [0, 0, 1537, 0, 0, 0, 1761, 0, 0, 0, 1678, 0, 0, 0, 0, 0, 1667, 0, 0, 0, 0, 0, 0, 0, 1952, 0, 0, 1960, 0]
def k_X11_why : List aI := [aO 0 0 1, aC 0 (.int 0), aO 20 11 0, aO 0 0 1, aO 0 0 1, aO 0 1 0, aV 217 2 [11], aO 15 12 1, aO 0 0 1, aO 0 2 0, aV 196 2 [11], aO 15 14 0, aC 0 (.int 1), aO 17 15 0, aC 0 (.int 0), aC 0 (.int 1), aV 178 3 [11], aO 15 20 0, aC 0 (.int 0), aO 39 0 0, aO 0 0 1, aO 0 1 0, aO 0 2 0, aO 0 3 0, aV 263 4 [11], aO 0 0 1, aO 0 0 1, aO 0 3 0, aV 257 2 [11], aC 0 (.int 0), aV 260 3 [11], aO 1 4 0, aO 0 4 0, aO 15 36 2, aO 0 4 0, aO 17 42 0, aO 0 0 1, aO 0 0 1, aO 0 3 0, aV 257 2 [11], aC 0 (.int 1), aV 260 3 [11], aO 39 0 0]
def p_X11_why : List Nat := [0, 1, 2, 5, 6, 7, 8, 11, 14, 15, 16, 19, 22, 23, 26, 27, 28, 31, 34, 35, 36, 37, 38, 39, 40, 43, 44, 45, 46, 49, 50, 53, 55, 57, 60, 62, 65, 66, 67, 68, 71, 72, 75, 76]
def h_X11_why : List Nat := [0, 0, 1537, 0, 0, 0, 1761, 0, 0, 0, 1678, 0, 0, 0, 0, 0, 1667, 0, 0, 0, 0, 0, 0, 0, 1952, 0, 0, 0, 1964, 0, 1968, 0, 0, 0, 0, 0, 0, 0, 0, 1964, 0, 1968, 0]
def k_X11_looksAtCard : List aI := [aO 0 0 1, aC 0 (.int 0), aC 0 (.int 0), aC 0 (.int 0), aC 0 (.int 0), aO 0 2 0, aO 0 0 1, aO 0 1 0, aC 0 (.int 1), aV 232 3 [11], aO 4 0 1, aV 262 6 [11], aC 0 (.int 0), aO 1 3 0, aO 0 3 0, aC 0 (.int 3), aO 16 43 3, aO 0 0 1, aO 19 11 24, aC 0 (.int 1), aO 0 3 0, aO 4 0 0, aO 0 0 1, aO 0 1 0, aC 0 (.int 3), aO 0 3 0, aO 4 0 0, aV 232 3 [11], aO 15 39 2, aO 0 0 1, aO 0 1 0, aC 0 (.int 3), aO 0 3 0, aO 4 0 0, aV 232 3 [11], aO 0 2 0, aO 16 39 4, aC 0 (.int 1), aO 17 40 0, aC 0 (.int 0), aO 26 0 0, aN 3 1, aO 17 14 0, aO 39 0 3]
def p_X11_looksAtCard : List Nat := [0, 1, 2, 3, 4, 5, 6, 7, 8, 9, 12, 13, 16, 17, 18, 19, 20, 23, 24, 27, 28, 29, 30, 31, 32, 33, 34, 35, 38, 41, 42, 43, 44, 45, 46, 49, 50, 53, 54, 57, 58, 59, 62, 65, 66]
def h_X11_looksAtCard : List Nat := [0, 0, 0, 0, 0, 0, 0, 0, 0, 1826, 0, 1956, 0, 0, 0, 0, 0, 0, 1561, 0, 0, 0, 0, 0, 0, 0, 0, 1826, 0, 0, 0, 0, 0, 0, 1826, 0, 0, 0, 0, 0, 0, 0, 0, 0]
def k_X11_keptOf : List aI := [aO 0 0 1, aO 0 1 0, aO 0 2 0, aV 267 3 [11], aO 0 0 1, aO 0 2 0, aV 257 2 [11], aO 1 3 0, aC 0 (.int 0), aO 1 4 0, aC 0 (.int 0), aO 1 5 0, aO 0 5 0, aO 0 0 1, aO 0 3 0, aV 258 2 [11], aO 16 43 3, aO 0 0 1, aO 19 11 1, aO 0 3 0, aO 0 5 0, aV 249 2 [], aO 23 0 0, aC 0 (.int 4), aO 16 41 1, aO 0 0 1, aO 0 3 0, aO 0 5 0, aV 259 3 [11], aO 15 41 0, aO 0 4 0, aO 0 0 1, aO 19 11 1, aO 0 3 0, aO 0 5 0, aV 249 2 [], aC 0 (.int 1), aO 4 0 0, aO 23 0 0, aV 335 2 [], aO 1 4 0, aN 5 1, aO 17 12 0, aO 0 4 0, aO 39 0 0]
def p_X11_keptOf : List Nat := [0, 1, 2, 3, 6, 7, 8, 11, 12, 13, 15, 16, 18, 20, 21, 22, 25, 28, 29, 32, 33, 35, 38, 39, 40, 43, 44, 45, 47, 50, 53, 55, 56, 59, 60, 62, 65, 66, 67, 68, 71, 73, 76, 79, 81, 82]
def h_X11_keptOf : List Nat := [0, 0, 0, 1992, 0, 0, 1964, 0, 0, 0, 0, 0, 0, 0, 0, 1972, 0, 0, 1538, 0, 0, 1893, 0, 0, 0, 0, 0, 0, 1976, 0, 0, 0, 1538, 0, 0, 1893, 0, 0, 0, 1799, 0, 0, 0, 0, 0]
def k_X11_kept : List aI := [aO 0 0 1, aC 0 (.int 0), aO 20 11 0, aO 0 0 1, aO 0 0 1, aO 0 1 0, aV 233 2 [11], aC 0 (.int 1), aV 178 3 [11], aO 15 12 0, aC 0 (.int 0), aO 17 16 0, aO 0 0 1, aO 0 1 0, aO 0 2 0, aV 268 3 [11], aO 39 0 0]
def p_X11_kept : List Nat := [0, 1, 2, 5, 6, 7, 8, 11, 12, 15, 18, 19, 22, 23, 24, 25, 28, 29]
def h_X11_kept : List Nat := [0, 0, 1537, 0, 0, 0, 1819, 0, 1667, 0, 0, 0, 0, 0, 0, 1988, 0]
def k_X11_tell : List aI := [aO 0 0 1, aC 0 (.int 0), aO 20 11 0, aO 0 0 1, aO 0 0 1, aO 0 1 0, aV 233 2 [11], aC 0 (.int 1), aV 178 3 [11], aO 15 29 1, aO 0 0 1, aO 0 2 0, aC 0 (.int 0), aC 0 (.int 2), aV 179 3 [], aO 15 18 1, aC 0 (.int 1), aO 17 19 0, aC 0 (.int 0), aC 0 (.int 2), aV 178 3 [11], aO 15 29 1, aO 0 0 1, aO 0 1 0, aC 0 (.int 3), aO 0 2 0, aO 4 0 0, aV 232 3 [11], aO 15 31 2, aC 0 (.int 0), aO 39 0 0, aO 0 0 1, aO 19 11 1, aO 0 1 0, aC 0 (.int 3), aO 0 2 0, aO 4 0 0, aV 231 2 [], aO 0 0 1, aV 181 1 [11], aO 24 0 0, aC 0 (.int 1), aO 39 0 0]
def p_X11_tell : List Nat := [0, 1, 2, 5, 6, 7, 8, 11, 12, 15, 18, 19, 20, 21, 22, 25, 28, 29, 32, 33, 34, 37, 40, 41, 42, 43, 44, 45, 48, 51, 52, 53, 54, 57, 58, 59, 60, 61, 64, 65, 68, 69, 70, 71]
def h_X11_tell : List Nat := [0, 0, 1537, 0, 0, 0, 1819, 0, 1667, 0, 0, 0, 0, 0, 1682, 0, 0, 0, 0, 0, 1667, 0, 0, 0, 0, 0, 0, 1826, 0, 0, 0, 0, 1538, 0, 0, 0, 0, 1812, 0, 1753, 0, 0, 0]
def k_X11_say : List aI := [aO 0 0 1, aC 0 (.int 0), aO 20 11 0, aO 0 0 1, aO 0 1 0, aC 0 (.int 0), aC 0 (.int 5), aV 179 3 [], aO 15 20 0, aO 0 0 1, aO 0 2 0, aV 217 2 [11], aO 15 20 1, aO 0 0 1, aO 0 3 0, aV 233 2 [11], aO 15 20 1, aO 0 4 0, aV 234 1 [], aO 15 22 0, aC 0 (.int 1), aO 17 23 0, aC 0 (.int 0), aC 0 (.int 1), aV 178 3 [11], aO 15 38 1, aO 0 0 1, aO 0 5 0, aC 0 (.int 0), aC 0 (.int 2), aV 179 3 [], aO 15 34 1, aC 0 (.int 1), aO 17 35 0, aC 0 (.int 0), aC 0 (.int 2), aV 178 3 [11], aO 15 40 0, aC 0 (.int 0), aO 39 0 0, aO 0 0 1, aO 19 11 1, aC 2 (.int 10223), aO 23 0 0, aO 1 6 0, aO 0 6 0, aC 2 (.int 200), aO 16 55 0, aO 0 0 1, aO 0 3 0, aC 1 (.int 6), aO 0 4 0, aO 4 0 0, aV 232 3 [11], aO 15 57 3, aC 0 (.int (-1)), aO 39 0 0, aC 2 (.int 10224), aC 1 (.int 6), aO 0 6 0, aO 4 0 2, aO 4 0 0, aO 1 7 0, aO 0 0 1, aO 19 11 1, aO 0 7 0, aO 0 1 0, aO 24 0 0, aO 0 0 1, aO 19 11 1, aO 0 7 0, aC 0 (.int 1), aO 4 0 0, aO 0 2 0, aO 24 0 0, aO 0 0 1, aO 19 11 1, aO 0 7 0, aC 0 (.int 2), aO 4 0 0, aO 0 3 0, aO 24 0 0, aO 0 0 1, aO 19 11 1, aO 0 7 0, aC 0 (.int 3), aO 4 0 0, aO 0 4 0, aO 24 0 0, aO 0 0 1, aO 19 11 1, aO 0 7 0, aC 0 (.int 4), aO 4 0 0, aO 0 5 0, aO 24 0 0, aO 0 0 1, aO 19 11 1, aO 0 7 0, aC 0 (.int 5), aO 4 0 0, aO 0 0 1, aV 181 1 [11], aO 24 0 0, aO 0 0 1, aO 19 11 1, aC 2 (.int 10223), aO 12 0 1, aO 23 0 0, aC 0 (.int 1), aO 4 0 0, aO 24 0 0, aO 0 6 0, aC 0 (.int 1), aO 4 0 0, aO 39 0 0]
def p_X11_say : List Nat := [0, 1, 2, 5, 6, 7, 8, 9, 12, 15, 16, 17, 20, 23, 24, 25, 28, 31, 33, 36, 39, 40, 43, 44, 45, 48, 51, 52, 54, 55, 56, 59, 62, 63, 66, 67, 68, 71, 74, 75, 76, 77, 80, 83, 84, 86, 88, 91, 94, 95, 96, 98, 100, 101, 104, 107, 108, 109, 112, 114, 116, 117, 118, 120, 121, 124, 126, 127, 128, 129, 132, 134, 135, 136, 137, 138, 139, 142, 144, 145, 146, 147, 148, 149, 152, 154, 155, 156, 158, 159, 160, 163, 165, 166, 167, 169, 170, 171, 174, 176, 177, 178, 179, 182, 183, 184, 187, 190, 191, 192, 193, 194, 195, 197, 198, 199, 200]
def h_X11_say : List Nat := [0, 0, 1537, 0, 0, 0, 0, 1682, 0, 0, 0, 1761, 0, 0, 0, 1819, 0, 0, 1823, 0, 0, 0, 0, 0, 1667, 0, 0, 0, 0, 0, 1682, 0, 0, 0, 0, 0, 1667, 0, 0, 0, 0, 1538, 0, 0, 0, 0, 0, 0, 0, 0, 0, 0, 0, 1826, 0, 0, 0, 0, 0, 0, 0, 0, 0, 0, 1538, 0, 0, 0, 0, 1538, 0, 0, 0, 0, 0, 0, 1538, 0, 0, 0, 0, 0, 0, 1538, 0, 0, 0, 0, 0, 0, 1538, 0, 0, 0, 0, 0, 0, 1538, 0, 0, 0, 0, 1753, 0, 0, 1538, 0, 0, 0, 0, 0, 0, 0, 0, 0, 0]
def k_X11_saidOf : List aI := [aC 0 (.int (-1)), aO 1 6 0, aC 2 (.int 10224), aO 1 7 0, aO 0 7 0, aC 2 (.int 10224), aC 1 (.int 6), aO 0 0 1, aO 19 11 1, aC 2 (.int 10223), aO 23 0 0, aO 4 0 2, aO 4 0 0, aO 16 61 3, aO 0 0 1, aO 19 11 1, aO 0 7 0, aO 23 0 0, aO 0 1 0, aO 16 59 1, aO 0 0 1, aO 19 11 1, aO 0 7 0, aC 0 (.int 1), aO 4 0 0, aO 23 0 0, aO 0 2 0, aO 16 59 1, aO 0 0 1, aO 19 11 1, aO 0 7 0, aC 0 (.int 2), aO 4 0 0, aO 23 0 0, aO 0 3 0, aO 16 59 1, aO 0 0 1, aO 19 11 1, aO 0 7 0, aC 0 (.int 3), aO 4 0 0, aO 23 0 0, aO 0 4 0, aO 16 59 1, aO 0 0 1, aO 19 11 1, aO 0 7 0, aC 0 (.int 5), aO 4 0 0, aO 23 0 0, aO 0 5 0, aO 16 59 4, aO 0 0 1, aO 19 11 1, aO 0 7 0, aC 0 (.int 4), aO 4 0 0, aO 23 0 0, aO 1 6 0, aN 7 6, aO 17 4 0, aO 0 6 0, aO 39 0 0]
def p_X11_saidOf : List Nat := [0, 1, 3, 6, 8, 10, 13, 15, 16, 19, 22, 23, 24, 25, 28, 29, 32, 34, 35, 36, 39, 40, 43, 45, 46, 47, 48, 49, 52, 53, 56, 58, 59, 60, 61, 62, 65, 66, 69, 71, 72, 73, 74, 76, 79, 80, 83, 85, 86, 87, 88, 90, 93, 94, 97, 99, 100, 101, 102, 104, 107, 110, 112, 113]
def h_X11_saidOf : List Nat := [0, 0, 0, 0, 0, 0, 0, 0, 1538, 0, 0, 0, 0, 0, 0, 1538, 0, 0, 0, 0, 0, 1538, 0, 0, 0, 0, 0, 0, 0, 1538, 0, 0, 0, 0, 0, 0, 0, 1538, 0, 0, 0, 0, 0, 0, 0, 1538, 0, 0, 0, 0, 0, 0, 0, 1538, 0, 0, 0, 0, 0, 0, 0, 0, 0]
def k_X11_said : List aI := [aO 0 0 1, aC 0 (.int 0), aO 20 11 0, aO 0 0 1, aO 0 1 0, aC 0 (.int 0), aC 0 (.int 5), aV 179 3 [], aO 15 20 0, aO 0 0 1, aO 0 2 0, aV 217 2 [11], aO 15 20 1, aO 0 0 1, aO 0 3 0, aV 233 2 [11], aO 15 20 1, aO 0 4 0, aV 234 1 [], aO 15 22 0, aC 0 (.int 1), aO 17 23 0, aC 0 (.int 0), aC 0 (.int 1), aV 178 3 [11], aO 15 28 0, aC 0 (.int 0), aO 17 35 0, aO 0 0 1, aO 0 1 0, aO 0 2 0, aO 0 3 0, aO 0 4 0, aO 0 5 0, aV 272 6 [11], aO 39 0 0]
def p_X11_said : List Nat := [0, 1, 2, 5, 6, 7, 8, 9, 12, 15, 16, 17, 20, 23, 24, 25, 28, 31, 33, 36, 39, 40, 43, 44, 45, 48, 51, 52, 55, 56, 57, 58, 59, 61, 63, 66, 67]
def h_X11_said : List Nat := [0, 0, 1537, 0, 0, 0, 0, 1682, 0, 0, 0, 1761, 0, 0, 0, 1819, 0, 0, 1823, 0, 0, 0, 0, 0, 1667, 0, 0, 0, 0, 0, 0, 0, 0, 0, 2008, 0]
def k_X11_isProved : List aI := [aO 0 0 1, aO 0 2 0, aC 1 (.int 6), aO 0 3 0, aO 4 0 0, aV 232 3 [11], aO 1 5 0, aC 0 (.int 0), aO 1 6 0, aC 0 (.int 0), aO 1 7 0, aC 0 (.int 0), aO 1 8 0, aO 0 8 0, aC 1 (.int 6), aO 16 43 3, aO 0 0 1, aO 0 8 0, aO 0 1 0, aO 0 2 0, aO 0 3 0, aO 0 4 0, aV 272 6 [11], aO 1 9 0, aO 0 6 0, aO 0 9 0, aC 0 (.int 1), aO 16 30 1, aC 0 (.int 1), aO 17 31 0, aC 0 (.int 0), aO 4 0 0, aO 1 6 0, aO 0 7 0, aO 15 37 1, aO 0 9 0, aO 15 39 1, aC 0 (.int 1), aO 17 40 0, aC 0 (.int 0), aO 1 7 0, aN 8 1, aO 17 13 0, aO 0 5 0, aO 15 54 2, aO 0 7 0, aO 15 54 1, aO 0 6 0, aO 0 0 1, aO 0 4 0, aC 0 (.int 2), aC 0 (.int 1), aV 261 4 [11], aO 16 56 3, aC 0 (.int 0), aO 39 0 0, aO 0 0 1, aO 0 1 0, aO 0 5 0, aO 0 4 0, aV 263 4 [11], aO 0 0 1, aO 0 4 0, aV 264 2 [11], aC 0 (.int 2), aO 16 68 1, aC 0 (.int 1), aO 17 69 0, aC 0 (.int 0), aO 39 0 0]
def p_X11_isProved : List Nat := [0, 1, 2, 4, 5, 6, 9, 11, 12, 14, 15, 17, 18, 20, 22, 24, 27, 28, 30, 31, 32, 33, 35, 38, 40, 42, 44, 45, 48, 49, 52, 53, 54, 56, 58, 61, 63, 66, 67, 70, 71, 73, 76, 79, 81, 84, 86, 89, 91, 92, 94, 95, 96, 99, 102, 103, 104, 105, 106, 108, 110, 113, 114, 116, 119, 120, 123, 124, 127, 128, 129]
def h_X11_isProved : List Nat := [0, 0, 0, 0, 0, 1826, 0, 0, 0, 0, 0, 0, 0, 0, 0, 0, 0, 0, 0, 0, 0, 0, 2008, 0, 0, 0, 0, 0, 0, 0, 0, 0, 0, 0, 0, 0, 0, 0, 0, 0, 0, 0, 0, 0, 0, 0, 0, 0, 0, 0, 0, 0, 2020, 0, 0, 0, 0, 0, 0, 0, 1952, 0, 0, 1960, 0, 0, 0, 0, 0, 0]
def k_X11_proved : List aI := [aO 0 0 1, aC 0 (.int 0), aO 20 11 0, aO 0 0 1, aO 0 0 1, aO 0 1 0, aV 217 2 [11], aO 15 15 1, aO 0 0 1, aO 0 2 0, aV 233 2 [11], aO 15 15 1, aO 0 3 0, aV 234 1 [], aO 15 17 0, aC 0 (.int 1), aO 17 18 0, aC 0 (.int 0), aC 0 (.int 1), aV 178 3 [11], aO 15 30 1, aO 0 0 1, aO 0 1 0, aO 0 2 0, aO 0 3 0, aO 0 4 0, aV 274 5 [11], aO 15 30 0, aC 0 (.int 1), aO 17 31 0, aC 0 (.int 0), aO 39 0 0]
def p_X11_proved : List Nat := [0, 1, 2, 5, 6, 7, 8, 11, 14, 15, 16, 19, 22, 23, 26, 29, 30, 33, 34, 35, 38, 41, 42, 43, 44, 45, 47, 50, 53, 54, 57, 58, 59]
def h_X11_proved : List Nat := [0, 0, 1537, 0, 0, 0, 1761, 0, 0, 0, 1819, 0, 0, 1823, 0, 0, 0, 0, 0, 1667, 0, 0, 0, 0, 0, 0, 2016, 0, 0, 0, 0, 0]
def k_X11_alikeOf : List aI := [aO 0 1 0, aO 0 2 0, aV 336 2 [], aO 1 4 0, aO 0 1 0, aO 0 2 0, aV 335 2 [], aO 1 5 0, aC 0 (.int 0), aO 1 6 0, aC 0 (.int 0), aO 1 7 0, aO 0 7 0, aC 1 (.int 10), aO 16 85 3, aO 0 0 1, aO 0 4 0, aC 1 (.int 6), aO 0 7 0, aO 4 0 0, aV 232 3 [11], aO 1 8 0, aO 0 0 1, aO 0 5 0, aC 1 (.int 6), aO 0 7 0, aO 4 0 0, aV 232 3 [11], aO 1 9 0, aO 0 8 0, aO 15 83 2, aO 0 9 0, aO 15 83 2, aO 0 0 1, aO 0 8 0, aV 212 2 [11], aO 0 0 1, aO 0 9 0, aV 212 2 [11], aO 16 41 0, aO 17 83 0, aO 0 0 1, aO 0 8 0, aV 195 1 [], aC 1 (.int 64), aO 4 0 0, aO 0 9 0, aV 195 1 [], aC 1 (.int 64), aO 4 0 0, aC 0 (.int 0), aC 0 (.int 0), aC 1 (.int 63), aC 1 (.int 63), aV 228 7 [11], aO 0 0 1, aO 0 0 1, aO 19 11 13, aO 0 0 1, aO 19 11 14, aO 0 0 1, aO 19 11 1, aO 0 8 0, aV 195 1 [], aC 1 (.int 64), aO 4 0 0, aO 23 0 0, aO 0 0 1, aO 0 9 0, aV 212 2 [11], aC 0 (.int 0), aV 262 6 [11], aO 0 6 0, aO 0 0 1, aO 0 3 0, aV 264 2 [11], aC 0 (.int 2), aO 16 80 1, aC 0 (.int 1), aO 17 81 0, aC 0 (.int 0), aO 4 0 0, aO 1 6 0, aN 7 1, aO 17 12 0, aO 0 6 0, aO 39 0 0]
def p_X11_alikeOf : List Nat := [0, 1, 2, 5, 7, 8, 9, 12, 14, 15, 17, 18, 20, 22, 24, 27, 28, 30, 32, 34, 35, 38, 40, 41, 43, 45, 47, 48, 51, 53, 55, 58, 60, 63, 64, 66, 69, 70, 72, 75, 78, 81, 82, 84, 87, 89, 90, 92, 95, 97, 98, 99, 100, 102, 104, 107, 108, 109, 112, 113, 116, 117, 120, 122, 125, 127, 128, 129, 130, 132, 135, 136, 139, 141, 142, 143, 146, 147, 150, 151, 154, 155, 156, 158, 161, 164, 166, 167]
def h_X11_alikeOf : List Nat := [0, 0, 1728, 0, 0, 0, 1799, 0, 0, 0, 0, 0, 0, 0, 0, 0, 0, 0, 0, 0, 1826, 0, 0, 0, 0, 0, 0, 1826, 0, 0, 0, 0, 0, 0, 0, 1849, 0, 0, 1849, 0, 0, 0, 0, 1671, 0, 0, 0, 1671, 0, 0, 0, 0, 0, 0, 1777, 0, 0, 1550, 0, 1551, 0, 1538, 0, 1671, 0, 0, 0, 0, 0, 1849, 0, 1956, 0, 0, 0, 1960, 0, 0, 0, 0, 0, 0, 0, 0, 0, 0, 0]
def k_X11_alike : List aI := [aO 0 0 1, aC 0 (.int 0), aO 20 11 0, aO 0 0 1, aO 0 0 1, aO 0 1 0, aV 233 2 [11], aO 15 12 1, aO 0 0 1, aO 0 2 0, aV 233 2 [11], aO 15 14 0, aC 0 (.int 1), aO 17 15 0, aC 0 (.int 0), aC 0 (.int 1), aV 178 3 [11], aO 15 20 0, aC 0 (.int 0), aO 17 25 0, aO 0 0 1, aO 0 1 0, aO 0 2 0, aO 0 3 0, aV 276 4 [11], aO 39 0 0]
def p_X11_alike : List Nat := [0, 1, 2, 5, 6, 7, 8, 11, 14, 15, 16, 19, 22, 23, 26, 27, 28, 31, 34, 35, 38, 39, 40, 41, 42, 45, 46]
def h_X11_alike : List Nat := [0, 0, 1537, 0, 0, 0, 1819, 0, 0, 0, 1819, 0, 0, 0, 0, 0, 1667, 0, 0, 0, 0, 0, 0, 0, 2028, 0]
def k_X11_isThere : List aI := [aO 0 0 1, aO 0 1 0, aC 0 (.int 1), aV 232 3 [11], aO 0 2 0, aO 16 19 4, aO 0 0 1, aO 0 1 0, aC 0 (.int 2), aV 232 3 [11], aO 15 17 2, aO 0 0 1, aO 0 1 0, aC 0 (.int 2), aV 232 3 [11], aO 0 2 0, aO 16 19 5, aC 0 (.int 1), aO 17 20 0, aC 0 (.int 0), aO 39 0 0]
def p_X11_isThere : List Nat := [0, 1, 2, 3, 6, 7, 10, 11, 12, 13, 16, 19, 20, 21, 22, 25, 26, 29, 30, 33, 34, 35]
def h_X11_isThere : List Nat := [0, 0, 0, 1826, 0, 0, 0, 0, 0, 1826, 0, 0, 0, 0, 1826, 0, 0, 0, 0, 0, 0]
def k_X11_joins : List aI := [aO 0 0 1, aO 19 11 1, aC 2 (.int 6606), aO 23 0 0, aO 1 2 0, aO 0 0 1, aO 0 1 0, aC 0 (.int 3), aC 0 (.int 3), aV 261 4 [11], aO 1 3 0, aC 0 (.int 0), aO 1 4 0, aO 0 4 0, aO 0 2 0, aO 16 30 3, aO 0 0 1, aO 19 11 27, aO 0 4 0, aO 0 0 1, aO 0 4 0, aO 0 1 0, aV 278 3 [11], aO 15 26 0, aO 0 4 0, aO 17 27 0, aC 0 (.int (-1)), aO 24 0 0, aN 4 1, aO 17 13 0, aC 0 (.int 0), aO 1 4 0, aO 0 4 0, aO 0 2 0, aO 16 116 3, aO 0 4 0, aC 0 (.int 1), aO 4 0 0, aO 1 5 0, aO 0 5 0, aO 0 2 0, aO 16 114 3, aO 0 0 1, aO 19 11 27, aO 0 4 0, aO 23 0 0, aO 15 112 2, aO 0 0 1, aO 19 11 27, aO 0 5 0, aO 23 0 0, aO 15 112 2, aO 0 0 1, aO 19 11 27, aO 0 4 0, aO 23 0 0, aO 0 0 1, aO 19 11 27, aO 0 5 0, aO 23 0 0, aO 16 112 0, aO 0 0 1, aO 0 4 0, aO 0 5 0, aO 0 1 0, aV 276 4 [11], aO 0 3 0, aO 16 69 3, aO 17 112 0, aO 0 0 1, aO 19 11 27, aO 0 4 0, aO 23 0 0, aO 0 0 1, aO 19 11 27, aO 0 5 0, aO 23 0 0, aV 336 2 [], aO 1 6 0, aO 0 0 1, aO 19 11 27, aO 0 4 0, aO 23 0 0, aO 0 0 1, aO 19 11 27, aO 0 5 0, aO 23 0 0, aV 335 2 [], aO 1 7 0, aC 0 (.int 0), aO 1 8 0, aO 0 8 0, aO 0 2 0, aO 16 112 3, aO 0 0 1, aO 19 11 27, aO 0 8 0, aO 0 0 1, aO 19 11 27, aO 0 8 0, aO 23 0 0, aO 0 7 0, aO 16 105 1, aO 0 6 0, aO 17 109 0, aO 0 0 1, aO 19 11 27, aO 0 8 0, aO 23 0 0, aO 24 0 0, aN 8 1, aO 17 91 0, aN 5 1, aO 17 39 0, aN 4 1, aO 17 32 0, aO 39 0 3]
def p_X11_joins : List Nat := [0, 1, 4, 7, 8, 9, 10, 11, 12, 13, 16, 17, 18, 20, 22, 23, 26, 27, 30, 32, 33, 35, 36, 39, 42, 44, 47, 48, 49, 52, 55, 56, 58, 60, 61, 64, 66, 67, 68, 70, 72, 73, 76, 77, 80, 82, 83, 86, 87, 90, 92, 93, 96, 97, 100, 102, 103, 104, 107, 109, 110, 113, 114, 116, 118, 119, 122, 123, 126, 129, 130, 133, 135, 136, 137, 140, 142, 143, 146, 148, 149, 152, 154, 155, 156, 159, 161, 162, 165, 167, 168, 170, 172, 173, 176, 177, 180, 182, 183, 186, 188, 189, 191, 194, 196, 199, 200, 203, 205, 206, 207, 210, 213, 216, 219, 222, 225, 226]
def h_X11_joins : List Nat := [0, 1538, 0, 0, 0, 0, 0, 0, 0, 2020, 0, 0, 0, 0, 0, 0, 0, 1564, 0, 0, 0, 0, 2040, 0, 0, 0, 0, 0, 0, 0, 0, 0, 0, 0, 0, 0, 0, 0, 0, 0, 0, 0, 0, 1564, 0, 0, 0, 0, 1564, 0, 0, 0, 0, 1564, 0, 0, 0, 1564, 0, 0, 0, 0, 0, 0, 0, 2028, 0, 0, 0, 0, 1564, 0, 0, 0, 1564, 0, 0, 1728, 0, 0, 1564, 0, 0, 0, 1564, 0, 0, 1799, 0, 0, 0, 0, 0, 0, 0, 1564, 0, 0, 1564, 0, 0, 0, 0, 0, 0, 0, 1564, 0, 0, 0, 0, 0, 0, 0, 0, 0, 0]
def k_X11_person : List aI := [aO 0 0 1, aC 0 (.int 0), aO 20 11 0, aO 0 0 1, aO 0 0 1, aO 0 1 0, aV 233 2 [11], aC 0 (.int 1), aV 178 3 [11], aO 15 12 0, aC 0 (.int 0), aO 39 0 0, aO 0 0 1, aO 0 2 0, aV 279 2 [11], aO 0 0 1, aO 19 11 27, aO 0 1 0, aO 23 0 0, aO 39 0 0]
def p_X11_person : List Nat := [0, 1, 2, 5, 6, 7, 8, 11, 12, 15, 18, 19, 20, 21, 22, 25, 26, 29, 30, 31, 32]
def h_X11_person : List Nat := [0, 0, 1537, 0, 0, 0, 1819, 0, 1667, 0, 0, 0, 0, 0, 2036, 0, 1564, 0, 0, 0]
def k_X11_persons : List aI := [aO 0 0 1, aC 0 (.int 0), aO 20 11 0, aO 0 0 1, aO 0 1 0, aV 279 2 [11], aC 0 (.int 0), aO 1 3 0, aC 0 (.int 0), aO 1 4 0, aO 0 4 0, aO 0 0 1, aO 19 11 1, aC 2 (.int 6606), aO 23 0 0, aO 16 70 3, aO 0 0 1, aO 19 11 27, aO 0 4 0, aO 23 0 0, aO 0 4 0, aO 16 23 0, aO 17 68 0, aC 0 (.int 0), aO 1 5 0, aO 0 4 0, aC 0 (.int 1), aO 4 0 0, aO 1 6 0, aO 0 6 0, aO 0 0 1, aO 19 11 1, aC 2 (.int 6606), aO 23 0 0, aO 16 58 3, aO 0 5 0, aO 15 52 1, aO 0 0 1, aO 19 11 27, aO 0 6 0, aO 23 0 0, aO 0 4 0, aO 16 54 1, aO 0 0 1, aO 0 6 0, aC 0 (.int 0), aV 232 3 [11], aO 0 0 1, aO 0 4 0, aC 0 (.int 0), aV 232 3 [11], aO 16 54 0, aC 0 (.int 1), aO 17 55 0, aC 0 (.int 0), aO 1 5 0, aN 6 1, aO 17 29 0, aO 0 3 0, aO 0 2 0, aO 15 63 0, aO 0 5 0, aO 15 65 0, aC 0 (.int 1), aO 17 66 0, aC 0 (.int 0), aO 4 0 0, aO 1 3 0, aN 4 1, aO 17 10 0, aO 0 3 0, aO 39 0 0]
def p_X11_persons : List Nat := [0, 1, 2, 5, 6, 7, 10, 11, 12, 13, 15, 17, 18, 21, 24, 25, 28, 29, 32, 34, 35, 37, 40, 43, 44, 46, 48, 49, 50, 52, 54, 55, 58, 61, 62, 65, 67, 70, 71, 74, 76, 77, 79, 82, 83, 85, 86, 89, 90, 92, 93, 96, 99, 100, 103, 104, 106, 109, 112, 113, 114, 117, 119, 122, 123, 126, 127, 128, 129, 132, 135, 136, 137]
def h_X11_persons : List Nat := [0, 0, 1537, 0, 0, 2036, 0, 0, 0, 0, 0, 0, 1538, 0, 0, 0, 0, 1564, 0, 0, 0, 0, 0, 0, 0, 0, 0, 0, 0, 0, 0, 1538, 0, 0, 0, 0, 0, 0, 1564, 0, 0, 0, 0, 0, 0, 0, 1826, 0, 0, 0, 1826, 0, 0, 0, 0, 0, 0, 0, 0, 0, 0, 0, 0, 0, 0, 0, 0, 0, 0, 0, 0, 0]
def k_X11_desk : List aI := [aO 0 0 1, aC 0 (.int 0), aO 20 11 0, aO 0 0 1, aO 0 1 0, aC 0 (.int 0), aC 1 (.int 60), aV 179 3 [], aO 15 11 1, aC 0 (.int 1), aO 17 12 0, aC 0 (.int 0), aC 0 (.int 1), aV 178 3 [11], aO 15 16 0, aO 39 0 3, aO 0 0 1, aO 19 11 1, aC 0 (.int 2), aO 0 1 0, aO 24 0 0, aO 39 0 3]
def p_X11_desk : List Nat := [0, 1, 2, 5, 6, 7, 8, 10, 13, 16, 17, 20, 21, 22, 25, 28, 29, 30, 33, 34, 35, 36, 37]
def h_X11_desk : List Nat := [0, 0, 1537, 0, 0, 0, 0, 1682, 0, 0, 0, 0, 0, 1667, 0, 0, 0, 1538, 0, 0, 0, 0]
def k_X11_isWaiting : List aI := [aO 0 0 1, aO 0 2 0, aC 1 (.int 10), aO 5 0 0, aV 235 2 [11], aO 15 31 0, aO 0 0 1, aO 0 2 0, aC 1 (.int 10), aO 5 0 0, aC 1 (.int 6), aO 0 2 0, aC 1 (.int 10), aO 5 0 1, aO 4 0 0, aV 232 3 [11], aO 15 31 2, aO 0 0 1, aO 19 11 1, aO 0 1 0, aO 0 2 0, aC 1 (.int 10), aO 5 0 0, aO 0 2 0, aC 1 (.int 10), aO 5 0 1, aV 237 3 [], aO 23 0 0, aO 15 31 1, aC 0 (.int 1), aO 17 32 0, aC 0 (.int 0), aO 39 0 0]
def p_X11_isWaiting : List Nat := [0, 1, 2, 4, 5, 8, 11, 12, 13, 15, 16, 18, 19, 21, 22, 23, 26, 29, 30, 33, 34, 35, 37, 38, 39, 41, 42, 45, 46, 49, 50, 53, 54, 55]
def h_X11_isWaiting : List Nat := [0, 0, 0, 0, 1873, 0, 0, 0, 0, 0, 0, 0, 0, 0, 0, 1826, 0, 0, 1538, 0, 0, 0, 0, 0, 0, 0, 1830, 0, 0, 0, 0, 0, 0]
def k_X11_isSettled : List aI := [aC 0 (.int 0), aO 1 2 0, aO 0 2 0, aC 1 (.int 10), aO 0 0 1, aO 19 11 1, aC 2 (.int 6606), aO 23 0 0, aO 4 0 2, aO 16 32 3, aO 0 0 1, aO 0 2 0, aC 1 (.int 10), aO 5 0 0, aV 235 2 [11], aO 15 30 0, aO 0 0 1, aO 0 1 0, aO 0 2 0, aC 1 (.int 10), aO 5 0 0, aO 0 2 0, aC 1 (.int 10), aO 5 0 1, aO 0 0 1, aV 181 1 [11], aV 274 5 [11], aO 15 30 0, aC 0 (.int 1), aO 39 0 0, aN 2 1, aO 17 2 0, aC 0 (.int 0), aO 39 0 0]
def p_X11_isSettled : List Nat := [0, 1, 2, 3, 5, 6, 9, 12, 13, 14, 17, 18, 19, 21, 22, 25, 28, 29, 30, 31, 33, 34, 35, 37, 38, 39, 42, 45, 48, 49, 50, 53, 56, 57, 58]
def h_X11_isSettled : List Nat := [0, 0, 0, 0, 0, 1538, 0, 0, 0, 0, 0, 0, 0, 0, 1873, 0, 0, 0, 0, 0, 0, 0, 0, 0, 0, 1753, 2016, 0, 0, 0, 0, 0, 0, 0]
def k_X11_compares : List aI := [aO 0 2 0, aC 1 (.int 10), aO 5 0 0, aO 1 3 0, aO 0 2 0, aC 1 (.int 10), aO 5 0 1, aO 1 4 0, aO 0 0 1, aO 19 11 1, aO 0 1 0, aO 0 3 0, aO 0 4 0, aV 237 3 [], aC 0 (.int 1), aO 24 0 0, aO 0 0 1, aO 19 11 1, aC 0 (.int 3), aO 12 0 1, aO 23 0 0, aC 0 (.int 1), aO 4 0 0, aO 24 0 0, aO 0 0 1, aO 0 1 0, aO 0 0 1, aO 0 3 0, aC 1 (.int 6), aO 0 4 0, aO 4 0 0, aV 232 3 [11], aO 0 0 1, aV 181 1 [11], aV 263 4 [11], aO 0 0 1, aO 0 0 1, aV 181 1 [11], aV 264 2 [11], aO 1 5 0, aO 0 0 1, aO 19 11 1, aC 2 (.int 11424), aO 23 0 0, aO 1 6 0, aO 0 5 0, aO 15 50 0, aO 0 6 0, aC 2 (.int 200), aO 16 51 1, aO 39 0 3, aC 2 (.int 11425), aC 1 (.int 7), aO 0 6 0, aO 4 0 2, aO 4 0 0, aO 1 7 0, aO 0 0 1, aO 19 11 1, aO 0 7 0, aO 0 1 0, aO 24 0 0, aO 0 0 1, aO 19 11 1, aO 0 7 0, aC 0 (.int 1), aO 4 0 0, aO 0 3 0, aO 24 0 0, aO 0 0 1, aO 19 11 1, aO 0 7 0, aC 0 (.int 2), aO 4 0 0, aO 0 4 0, aO 24 0 0, aO 0 0 1, aO 19 11 1, aO 0 7 0, aC 0 (.int 3), aO 4 0 0, aO 0 5 0, aO 24 0 0, aO 0 0 1, aO 19 11 1, aO 0 7 0, aC 0 (.int 4), aO 4 0 0, aO 0 0 1, aO 19 11 13, aO 24 0 0, aO 0 0 1, aO 19 11 1, aO 0 7 0, aC 0 (.int 5), aO 4 0 0, aO 0 0 1, aV 181 1 [11], aO 24 0 0, aO 0 0 1, aO 19 11 1, aO 0 7 0, aC 1 (.int 6), aO 4 0 0, aO 0 0 1, aO 19 11 13, aO 24 0 0, aO 0 0 1, aO 19 11 1, aC 2 (.int 11424), aO 12 0 1, aO 23 0 0, aC 0 (.int 1), aO 4 0 0, aO 24 0 0, aO 39 0 3]
def p_X11_compares : List Nat := [0, 1, 3, 4, 5, 6, 8, 9, 11, 12, 15, 16, 17, 19, 22, 23, 24, 25, 28, 29, 30, 31, 32, 33, 34, 35, 36, 37, 38, 40, 42, 43, 46, 47, 50, 53, 54, 55, 58, 61, 63, 64, 67, 70, 71, 73, 75, 78, 80, 83, 86, 87, 90, 92, 94, 95, 96, 98, 99, 102, 104, 105, 106, 107, 110, 112, 113, 114, 115, 116, 117, 120, 122, 123, 124, 126, 127, 128, 131, 133, 134, 135, 137, 138, 139, 142, 144, 145, 146, 147, 150, 151, 152, 155, 157, 158, 159, 160, 163, 164, 165, 168, 170, 172, 173, 174, 177, 178, 179, 182, 185, 186, 187, 188, 189, 190, 191]
def h_X11_compares : List Nat := [0, 0, 0, 0, 0, 0, 0, 0, 0, 1538, 0, 0, 0, 1830, 0, 0, 0, 1538, 0, 0, 0, 0, 0, 0, 0, 0, 0, 0, 0, 0, 0, 1826, 0, 1753, 1952, 0, 0, 1753, 1960, 0, 0, 1538, 0, 0, 0, 0, 0, 0, 0, 0, 0, 0, 0, 0, 0, 0, 0, 0, 1538, 0, 0, 0, 0, 1538, 0, 0, 0, 0, 0, 0, 1538, 0, 0, 0, 0, 0, 0, 1538, 0, 0, 0, 0, 0, 0, 1538, 0, 0, 0, 0, 1550, 0, 0, 1538, 0, 0, 0, 0, 1753, 0, 0, 1538, 0, 0, 0, 0, 1550, 0, 0, 1538, 0, 0, 0, 0, 0, 0, 0]
def k_X11_desks : List aI := [aO 0 0 1, aO 19 11 1, aC 0 (.int 2), aO 23 0 0, aO 1 1 0, aC 0 (.int 1), aO 1 2 0, aO 0 2 0, aO 15 61 2, aC 0 (.int 0), aO 1 3 0, aO 0 3 0, aO 0 0 1, aO 19 11 1, aC 2 (.int 5825), aO 23 0 0, aO 16 59 3, aO 0 0 1, aO 19 11 1, aO 0 3 0, aC 0 (.int 5), aV 216 2 [], aO 23 0 0, aO 0 2 0, aO 16 57 1, aO 0 1 0, aO 15 57 0, aO 0 0 1, aO 0 3 0, aV 284 2 [11], aO 15 32 0, aO 17 57 0, aC 0 (.int 0), aO 1 4 0, aO 0 4 0, aC 1 (.int 10), aO 0 0 1, aO 19 11 1, aC 2 (.int 6606), aO 23 0 0, aO 4 0 2, aO 16 57 3, aO 0 1 0, aO 15 57 5, aO 0 0 1, aO 0 3 0, aO 0 4 0, aV 283 3 [11], aO 15 50 1, aO 17 55 0, aO 0 0 1, aO 0 3 0, aO 0 4 0, aV 285 3 [11], aN 1 (-1), aN 4 1, aO 17 34 0, aN 3 1, aO 17 11 0, aN 2 (-1), aO 17 7 0, aO 39 0 3]
def p_X11_desks : List Nat := [0, 1, 4, 5, 6, 7, 8, 9, 10, 13, 14, 15, 16, 17, 20, 23, 24, 27, 28, 31, 32, 33, 36, 37, 38, 41, 42, 45, 46, 47, 50, 53, 56, 57, 59, 61, 63, 64, 67, 70, 71, 72, 75, 76, 79, 80, 81, 83, 86, 89, 92, 93, 94, 96, 99, 102, 105, 108, 111, 114, 117, 120, 121]
def h_X11_desks : List Nat := [0, 1538, 0, 0, 0, 0, 0, 0, 0, 0, 0, 0, 0, 1538, 0, 0, 0, 0, 1538, 0, 0, 1750, 0, 0, 0, 0, 0, 0, 0, 2060, 0, 0, 0, 0, 0, 0, 0, 1538, 0, 0, 0, 0, 0, 0, 0, 0, 0, 2064, 0, 0, 0, 0, 0, 2068, 0, 0, 0, 0, 0, 0, 0, 0]
def k_X11_strikes : List aI := [aO 0 0 1, aO 0 0 1, aV 181 1 [11], aV 257 2 [11], aO 1 1 0, aC 0 (.int 0), aO 1 2 0, aC 0 (.int 0), aO 1 3 0, aO 0 3 0, aO 0 0 1, aO 0 1 0, aV 258 2 [11], aO 16 30 3, aO 0 2 0, aO 15 24 1, aO 0 0 1, aO 19 11 1, aO 0 1 0, aO 0 3 0, aV 249 2 [], aO 23 0 0, aC 0 (.int 4), aO 16 26 1, aC 0 (.int 1), aO 17 27 0, aC 0 (.int 0), aO 1 2 0, aN 3 1, aO 17 9 0, aC 0 (.int 0), aO 1 3 0, aO 0 3 0, aO 0 0 1, aO 19 11 1, aC 2 (.int 6606), aO 23 0 0, aO 16 75 3, aO 0 0 1, aO 0 3 0, aV 235 2 [11], aO 15 43 1, aO 17 73 0, aO 0 0 1, aO 0 3 0, aO 0 0 1, aV 181 1 [11], aV 268 3 [11], aO 1 4 0, aO 0 0 1, aO 0 1 0, aC 0 (.int 5), aV 260 3 [11], aO 15 65 3, aO 0 2 0, aO 15 73 0, aO 0 0 1, aV 181 1 [11], aO 0 0 1, aO 0 3 0, aC 0 (.int 1), aV 232 3 [11], aO 4 0 1, aO 0 4 0, aO 16 73 5, aO 0 0 1, aO 19 11 1, aO 0 3 0, aC 0 (.int 2), aV 231 2 [], aO 0 0 1, aV 181 1 [11], aO 24 0 0, aN 3 1, aO 17 32 0, aO 39 0 3]
def p_X11_strikes : List Nat := [0, 1, 2, 5, 8, 9, 10, 11, 12, 13, 14, 15, 16, 19, 22, 23, 26, 27, 30, 31, 32, 35, 36, 37, 40, 41, 44, 45, 46, 49, 52, 53, 54, 55, 56, 59, 62, 63, 66, 67, 68, 71, 74, 77, 78, 79, 80, 83, 86, 88, 89, 90, 91, 94, 97, 98, 101, 102, 105, 106, 107, 108, 111, 112, 114, 117, 118, 121, 122, 123, 126, 127, 130, 131, 134, 137, 138]
def h_X11_strikes : List Nat := [0, 0, 1753, 1964, 0, 0, 0, 0, 0, 0, 0, 0, 1972, 0, 0, 0, 0, 1538, 0, 0, 1893, 0, 0, 0, 0, 0, 0, 0, 0, 0, 0, 0, 0, 0, 1538, 0, 0, 0, 0, 0, 1873, 0, 0, 0, 0, 0, 1753, 1988, 0, 0, 0, 0, 1968, 0, 0, 0, 0, 1753, 0, 0, 0, 1826, 0, 0, 0, 0, 1538, 0, 0, 1812, 0, 1753, 0, 0, 0, 0]
def k_X11_days : List aI := [aO 0 0 1, aC 0 (.int 0), aO 20 11 0, aO 0 0 1, aO 0 1 0, aC 0 (.int 0), aC 1 (.int 40), aV 179 3 [], aO 15 11 1, aC 0 (.int 1), aO 17 12 0, aC 0 (.int 0), aC 0 (.int 1), aV 178 3 [11], aO 15 17 0, aC 0 (.int 0), aO 39 0 0, aC 0 (.int 0), aO 1 2 0, aO 0 2 0, aO 0 1 0, aO 16 40 3, aO 0 0 1, aV 181 1 [11], aC 2 (.int 2000), aO 16 40 3, aO 0 0 1, aO 19 11 1, aC 0 (.int 0), aO 12 0 1, aO 23 0 0, aC 0 (.int 1), aO 4 0 0, aO 24 0 0, aO 0 0 1, aV 286 1 [11], aO 0 0 1, aV 287 1 [11], aN 2 1, aO 17 19 0, aO 0 0 1, aV 181 1 [11], aO 39 0 0]
def p_X11_days : List Nat := [0, 1, 2, 5, 6, 7, 8, 10, 13, 16, 17, 20, 21, 22, 25, 28, 29, 30, 31, 32, 33, 34, 37, 38, 41, 44, 47, 48, 51, 52, 53, 54, 55, 56, 57, 58, 61, 62, 65, 68, 71, 72, 75, 76]
def h_X11_days : List Nat := [0, 0, 1537, 0, 0, 0, 0, 1682, 0, 0, 0, 0, 0, 1667, 0, 0, 0, 0, 0, 0, 0, 0, 0, 1753, 0, 0, 0, 1538, 0, 0, 0, 0, 0, 0, 0, 2056, 0, 2072, 0, 0, 0, 1753, 0]
def k_X11_look : List aI := [aO 0 0 1, aC 0 (.int 0), aO 20 11 0, aO 0 0 1, aO 0 0 1, aO 0 1 0, aV 233 2 [11], aC 0 (.int 1), aV 178 3 [11], aO 15 12 0, aC 0 (.int 0), aO 39 0 0, aC 0 (.int 0), aO 1 3 0, aO 0 2 0, aT 78 0 [16, 16, 16, 21, 21, 48], aO 0 0 1, aO 0 1 0, aO 0 2 0, aV 232 3 [11], aO 39 0 0, aC 0 (.int 0), aO 1 4 0, aO 0 4 0, aC 1 (.int 10), aO 16 46 3, aO 0 3 0, aO 0 0 1, aO 0 1 0, aO 0 2 0, aC 0 (.int 3), aO 16 34 1, aC 1 (.int 6), aO 17 35 0, aC 1 (.int 16), aO 0 4 0, aO 4 0 0, aV 232 3 [11], aO 15 41 2, aC 0 (.int 1), aO 17 42 0, aC 0 (.int 0), aO 4 0 0, aO 1 3 0, aN 4 1, aO 17 23 0, aO 0 3 0, aO 39 0 0, aC 0 (.int 0), aO 1 4 0, aO 0 4 0, aO 0 0 1, aO 19 11 1, aC 2 (.int 11424), aO 23 0 0, aO 16 76 3, aO 0 3 0, aO 0 0 1, aO 19 11 1, aC 2 (.int 11425), aC 1 (.int 7), aO 0 4 0, aO 4 0 2, aO 4 0 0, aC 0 (.int 1), aO 4 0 0, aO 23 0 0, aO 0 1 0, aO 16 71 1, aC 0 (.int 1), aO 17 72 0, aC 0 (.int 0), aO 4 0 0, aO 1 3 0, aN 4 1, aO 17 50 0, aO 0 3 0, aO 39 0 0, aO 0 0 1, aC 0 (.int 2), aO 20 11 0, aC 0 (.int 0), aO 39 0 0]
def p_X11_look : List Nat := [0, 1, 2, 5, 6, 7, 8, 11, 12, 15, 18, 19, 20, 21, 22, 23, 60, 61, 62, 63, 66, 67, 68, 70, 72, 74, 77, 78, 79, 80, 81, 82, 85, 87, 90, 92, 94, 95, 98, 101, 102, 105, 106, 107, 108, 111, 114, 115, 116, 117, 119, 121, 122, 125, 128, 129, 132, 133, 134, 137, 140, 142, 144, 145, 146, 147, 148, 149, 150, 153, 154, 157, 158, 159, 160, 163, 166, 167, 168, 169, 170, 173, 174, 175]
def h_X11_look : List Nat := [0, 0, 1537, 0, 0, 0, 1819, 0, 1667, 0, 0, 0, 0, 0, 0, 0, 0, 0, 0, 1826, 0, 0, 0, 0, 0, 0, 0, 0, 0, 0, 0, 0, 0, 0, 0, 0, 0, 1826, 0, 0, 0, 0, 0, 0, 0, 0, 0, 0, 0, 0, 0, 0, 1538, 0, 0, 0, 0, 0, 1538, 0, 0, 0, 0, 0, 0, 0, 0, 0, 0, 0, 0, 0, 0, 0, 0, 0, 0, 0, 0, 0, 1537, 0, 0]
def k_X11_hit : List aI := [aO 0 0 1, aC 0 (.int 0), aO 20 11 0, aO 0 0 1, aO 0 1 0, aC 0 (.int 0), aO 0 0 1, aO 19 11 1, aC 2 (.int 11424), aO 23 0 0, aC 0 (.int 1), aO 4 0 1, aV 179 3 [], aO 15 19 0, aO 0 2 0, aC 0 (.int 0), aC 0 (.int 5), aV 179 3 [], aO 15 21 1, aC 0 (.int 1), aO 17 22 0, aC 0 (.int 0), aC 0 (.int 1), aV 178 3 [11], aO 15 27 0, aC 0 (.int 0), aO 17 37 0, aO 0 0 1, aO 19 11 1, aC 2 (.int 11425), aC 1 (.int 7), aO 0 1 0, aO 4 0 2, aO 4 0 0, aO 0 2 0, aO 4 0 0, aO 23 0 0, aO 39 0 0]
def p_X11_hit : List Nat := [0, 1, 2, 5, 6, 7, 8, 9, 12, 15, 16, 17, 18, 21, 24, 25, 26, 27, 30, 33, 34, 37, 38, 39, 42, 45, 46, 49, 50, 53, 56, 58, 59, 60, 61, 62, 63, 64, 65]
def h_X11_hit : List Nat := [0, 0, 1537, 0, 0, 0, 0, 1538, 0, 0, 0, 0, 1682, 0, 0, 0, 0, 1682, 0, 0, 0, 0, 0, 1667, 0, 0, 0, 0, 1538, 0, 0, 0, 0, 0, 0, 0, 0, 0]
def k_X11_left : List aI := [aO 0 0 1, aC 0 (.int 0), aO 20 11 0, aO 0 0 1, aO 0 0 1, aO 0 1 0, aV 217 2 [11], aC 0 (.int 1), aV 178 3 [11], aO 15 12 0, aC 0 (.int 0), aO 39 0 0, aC 0 (.int 0), aO 1 2 0, aC 0 (.int 0), aO 1 3 0, aO 0 3 0, aC 1 (.int 10), aO 0 0 1, aO 19 11 1, aC 2 (.int 6606), aO 23 0 0, aO 4 0 2, aO 16 37 3, aO 0 2 0, aO 0 0 1, aO 0 1 0, aO 0 3 0, aV 283 3 [11], aO 15 32 0, aC 0 (.int 1), aO 17 33 0, aC 0 (.int 0), aO 4 0 0, aO 1 2 0, aN 3 1, aO 17 16 0, aO 0 2 0, aO 39 0 0]
def p_X11_left : List Nat := [0, 1, 2, 5, 6, 7, 8, 11, 12, 15, 18, 19, 20, 21, 22, 23, 24, 25, 27, 28, 31, 34, 35, 36, 39, 40, 41, 42, 43, 46, 49, 50, 53, 54, 55, 56, 59, 62, 63, 64]
def h_X11_left : List Nat := [0, 0, 1537, 0, 0, 0, 1761, 0, 1667, 0, 0, 0, 0, 0, 0, 0, 0, 0, 0, 1538, 0, 0, 0, 0, 0, 0, 0, 0, 2064, 0, 0, 0, 0, 0, 0, 0, 0, 0, 0]
def k_X11_common : List aI := [aO 0 0 2, aO 1 4 2, aO 0 2 2, aO 1 6 2, aO 0 6 2, aC 3 (.long 0), aO 10 0 0, aO 15 17 5, aO 0 4 2, aO 0 6 2, aO 9 0 1, aO 1 8 2, aO 0 6 2, aO 1 4 2, aO 0 8 2, aO 1 6 2, aO 17 4 0, aO 0 4 2, aO 39 0 2]
def p_X11_common : List Nat := [0, 1, 3, 4, 6, 8, 9, 10, 13, 15, 17, 18, 20, 22, 24, 26, 28, 31, 33, 34]
def h_X11_common : List Nat := [0, 0, 0, 0, 0, 0, 0, 0, 0, 0, 0, 0, 0, 0, 0, 0, 0, 0, 0]
def k_X11_rare : List aI := [aO 0 0 1, aC 0 (.int 0), aO 20 11 0, aO 0 0 1, aO 0 0 1, aO 0 1 0, aV 233 2 [11], aC 0 (.int 1), aV 178 3 [11], aO 15 12 0, aC 3 (.long 0), aO 39 0 2, aC 3 (.long 1), aO 1 3 2, aC 3 (.long 1), aO 1 5 2, aC 0 (.int 0), aO 1 7 0, aO 0 7 0, aC 1 (.int 10), aO 16 100 3, aO 0 0 1, aO 0 1 0, aC 1 (.int 6), aO 0 7 0, aO 4 0 0, aV 232 3 [11], aO 15 29 3, aO 17 98 0, aO 0 0 1, aO 0 1 0, aO 0 7 0, aC 0 (.int 0), aV 241 4 [11], aO 1 8 0, aC 3 (.long 1), aO 1 9 2, aC 4 (.long 2), aO 1 11 2, aC 0 (.int 0), aO 1 13 0, aO 0 13 0, aO 0 0 1, aO 19 11 1, aC 2 (.int 6606), aO 23 0 0, aO 16 78 3, aO 0 0 1, aO 0 13 0, aV 235 2 [11], aO 15 76 0, aO 0 0 1, aO 0 13 0, aC 1 (.int 6), aO 0 7 0, aO 4 0 0, aV 232 3 [11], aO 15 59 3, aO 17 76 0, aO 0 11 2, aC 3 (.long 1), aO 8 0 0, aO 1 11 2, aO 0 9 2, aO 0 0 1, aO 0 13 0, aO 0 7 0, aC 0 (.int 0), aV 241 4 [11], aO 0 8 0, aO 16 73 1, aC 3 (.long 1), aO 17 74 0, aC 3 (.long 0), aO 8 0 0, aO 1 9 2, aN 13 1, aO 17 41 0, aO 0 3 2, aO 0 9 2, aO 8 0 2, aO 1 3 2, aO 0 5 2, aO 0 11 2, aO 8 0 2, aO 1 5 2, aO 0 3 2, aO 0 5 2, aV 292 2 [], aO 1 13 2, aO 0 3 2, aO 0 13 2, aO 9 0 0, aO 1 3 2, aO 0 5 2, aO 0 13 2, aO 9 0 0, aO 1 5 2, aN 7 1, aO 17 18 0, aO 0 2 0, aO 15 104 0, aO 0 5 2, aO 17 105 0, aO 0 3 2, aO 39 0 2]
def p_X11_rare : List Nat := [0, 1, 2, 5, 6, 7, 8, 11, 12, 15, 18, 19, 20, 21, 22, 23, 25, 26, 28, 30, 32, 35, 36, 37, 39, 41, 42, 45, 48, 51, 52, 53, 55, 56, 59, 61, 62, 64, 67, 69, 70, 72, 74, 75, 78, 81, 82, 85, 86, 88, 91, 94, 95, 97, 99, 101, 102, 105, 108, 111, 113, 114, 115, 117, 119, 120, 122, 124, 125, 128, 130, 133, 134, 137, 138, 139, 141, 144, 147, 148, 150, 151, 152, 154, 156, 157, 159, 160, 162, 165, 167, 168, 170, 171, 172, 174, 176, 177, 179, 182, 185, 186, 189, 191, 194, 195, 196]
def h_X11_rare : List Nat := [0, 0, 1537, 0, 0, 0, 1819, 0, 1667, 0, 0, 0, 0, 0, 0, 0, 0, 0, 0, 0, 0, 0, 0, 0, 0, 0, 1826, 0, 0, 0, 0, 0, 0, 1841, 0, 0, 0, 2092, 0, 0, 0, 0, 0, 1538, 0, 0, 0, 0, 0, 1873, 0, 0, 0, 0, 0, 0, 1826, 0, 0, 0, 0, 0, 0, 0, 0, 0, 0, 0, 1841, 0, 0, 0, 0, 0, 0, 0, 0, 0, 0, 0, 0, 0, 0, 0, 0, 0, 0, 0, 2093, 0, 0, 0, 0, 0, 0, 0, 0, 0, 0, 0, 0, 0, 0, 0, 0, 0]
def k_X11_rowAt : List aI := [aC 1 (.int 6), aO 0 0 1, aO 19 11 1, aC 2 (.int 11424), aO 23 0 0, aV 336 2 [], aO 1 2 0, aO 0 1 0, aC 0 (.int 0), aO 0 2 0, aC 0 (.int 1), aO 4 0 1, aV 179 3 [], aO 15 27 0, aC 2 (.int 11425), aC 1 (.int 7), aO 0 0 1, aO 19 11 1, aC 2 (.int 11424), aO 23 0 0, aO 0 2 0, aO 4 0 1, aO 0 1 0, aO 4 0 0, aO 4 0 2, aO 4 0 0, aO 17 28 0, aC 0 (.int (-1)), aO 39 0 0]
def p_X11_rowAt : List Nat := [0, 2, 3, 6, 9, 10, 13, 14, 15, 16, 17, 18, 19, 22, 25, 28, 30, 31, 34, 37, 38, 39, 40, 41, 42, 43, 44, 47, 48, 49]
def h_X11_rowAt : List Nat := [0, 0, 1538, 0, 0, 1728, 0, 0, 0, 0, 0, 0, 1682, 0, 0, 0, 0, 1538, 0, 0, 0, 0, 0, 0, 0, 0, 0, 0, 0]
def k_X11_tear : List aI := [aO 0 0 1, aC 0 (.int 0), aO 20 11 0, aO 0 0 1, aO 0 0 1, aO 0 1 0, aV 294 2 [11], aO 15 10 3, aC 0 (.int 1), aO 17 11 0, aC 0 (.int 0), aC 0 (.int 1), aV 178 3 [11], aO 15 16 0, aC 0 (.int 0), aO 39 0 0, aO 0 0 1, aO 19 11 1, aO 0 0 1, aO 0 1 0, aV 294 2 [11], aC 0 (.int 4), aO 4 0 0, aO 12 0 1, aO 23 0 0, aO 0 2 0, aO 4 0 5, aO 24 0 0, aO 0 0 1, aO 19 11 1, aO 0 0 1, aO 0 1 0, aV 294 2 [11], aC 0 (.int 4), aO 4 0 0, aO 23 0 0, aO 39 0 0]
def p_X11_tear : List Nat := [0, 1, 2, 5, 6, 7, 8, 11, 14, 15, 18, 19, 20, 23, 26, 27, 28, 29, 32, 33, 34, 37, 38, 39, 40, 41, 42, 43, 44, 45, 48, 49, 50, 53, 54, 55, 56, 57]
def h_X11_tear : List Nat := [0, 0, 1537, 0, 0, 0, 2100, 0, 0, 0, 0, 0, 1667, 0, 0, 0, 0, 1538, 0, 0, 2100, 0, 0, 0, 0, 0, 0, 0, 0, 1538, 0, 0, 2100, 0, 0, 0, 0]
def k_X11_check : List aI := [aO 0 0 1, aC 0 (.int 0), aO 20 11 0, aC 0 (.int 0), aO 1 1 0, aO 0 1 0, aC 1 (.int 6), aO 0 0 1, aO 19 11 1, aC 2 (.int 11424), aO 23 0 0, aV 336 2 [], aO 16 34 3, aO 0 0 1, aO 19 11 1, aO 0 0 1, aO 0 1 0, aV 294 2 [11], aC 0 (.int 4), aO 4 0 0, aO 23 0 0, aO 0 0 1, aO 19 11 1, aO 0 0 1, aO 0 1 0, aV 294 2 [11], aC 1 (.int 6), aO 4 0 0, aO 23 0 0, aO 16 32 0, aO 0 1 0, aO 39 0 0, aN 1 1, aO 17 5 0, aC 0 (.int (-1)), aO 39 0 0]
def p_X11_check : List Nat := [0, 1, 2, 5, 6, 7, 8, 10, 11, 14, 17, 18, 21, 24, 25, 28, 29, 30, 33, 34, 35, 36, 37, 40, 41, 42, 45, 47, 48, 49, 52, 53, 54, 57, 60, 61, 62]
def h_X11_check : List Nat := [0, 0, 1537, 0, 0, 0, 0, 0, 1538, 0, 0, 1728, 0, 0, 1538, 0, 0, 2100, 0, 0, 0, 0, 1538, 0, 0, 2100, 0, 0, 0, 0, 0, 0, 0, 0, 0, 0]
def k_X11_count : List aI := [aO 0 0 1, aC 0 (.int 0), aO 20 11 0, aC 0 (.int 0), aO 1 2 0, aO 0 1 0, aT 84 0 [7, 10, 15, 20, 42, 47, 52, 59, 64, 69, 74, 79], aO 0 0 1, aV 181 1 [11], aO 39 0 0, aO 0 0 1, aO 19 11 1, aC 0 (.int 4), aO 23 0 0, aO 39 0 0, aO 0 0 1, aO 19 11 1, aC 2 (.int 6606), aO 23 0 0, aO 39 0 0, aC 0 (.int 0), aO 1 3 0, aO 0 3 0, aO 0 0 1, aO 19 11 1, aC 2 (.int 6606), aO 23 0 0, aO 16 40 3, aO 0 2 0, aO 0 0 1, aO 0 3 0, aV 235 2 [11], aO 15 35 0, aC 0 (.int 1), aO 17 36 0, aC 0 (.int 0), aO 4 0 0, aO 1 2 0, aN 3 1, aO 17 22 0, aO 0 2 0, aO 39 0 0, aO 0 0 1, aO 19 11 1, aC 2 (.int 5825), aO 23 0 0, aO 39 0 0, aO 0 0 1, aO 19 11 1, aC 2 (.int 12825), aO 23 0 0, aO 39 0 0, aO 0 0 1, aO 0 0 1, aO 0 0 1, aV 181 1 [11], aV 257 2 [11], aV 258 2 [11], aO 39 0 0, aO 0 0 1, aO 19 11 1, aC 2 (.int 10223), aO 23 0 0, aO 39 0 0, aO 0 0 1, aO 19 11 1, aC 2 (.int 11424), aO 23 0 0, aO 39 0 0, aO 0 0 1, aO 19 11 1, aC 0 (.int 3), aO 23 0 0, aO 39 0 0, aO 0 0 1, aO 19 11 1, aC 0 (.int 1), aO 23 0 0, aO 39 0 0, aO 0 0 1, aO 19 11 1, aC 0 (.int 2), aO 23 0 0, aO 39 0 0, aC 0 (.int (-1)), aO 39 0 0]
def p_X11_count : List Nat := [0, 1, 2, 5, 6, 7, 8, 72, 73, 76, 77, 78, 81, 82, 83, 84, 85, 88, 91, 92, 93, 94, 95, 96, 97, 100, 103, 104, 107, 108, 109, 110, 113, 116, 117, 120, 121, 122, 123, 126, 129, 130, 131, 132, 135, 138, 139, 140, 141, 144, 147, 148, 149, 150, 151, 152, 155, 158, 161, 162, 163, 166, 169, 170, 171, 172, 175, 178, 179, 180, 181, 184, 185, 186, 187, 188, 191, 192, 193, 194, 195, 198, 199, 200, 201, 202, 203]
def h_X11_count : List Nat := [0, 0, 1537, 0, 0, 0, 0, 0, 1753, 0, 0, 1538, 0, 0, 0, 0, 1538, 0, 0, 0, 0, 0, 0, 0, 1538, 0, 0, 0, 0, 0, 0, 1873, 0, 0, 0, 0, 0, 0, 0, 0, 0, 0, 0, 1538, 0, 0, 0, 0, 1538, 0, 0, 0, 0, 0, 0, 1753, 1964, 1972, 0, 0, 1538, 0, 0, 0, 0, 1538, 0, 0, 0, 0, 1538, 0, 0, 0, 0, 1538, 0, 0, 0, 0, 1538, 0, 0, 0, 0, 0]
def k_L_print : List aI := [aO 0 1 1, aC 0 (.int 0), aO 0 0 1, aV 112 1 [10], aO 6 0 0, aO 28 0 0, aO 17 13 0, aO 45 2 0, aC 0 (.int 1), aO 39 0 0, aO 45 2 0, aC 0 (.int 2), aO 39 0 0, aC 0 (.int 0), aO 39 0 0]
def p_L_print : List Nat := [0, 1, 2, 3, 6, 7, 8, 11, 12, 13, 14, 15, 16, 17, 18, 19]
def h_L_print : List Nat := [0, 0, 0, 789, 0, 0, 0, 0, 0, 0, 0, 0, 0, 0, 0]
def k_L_field : List aI := [aO 0 3 1, aC 0 (.int 0), aO 0 0 1, aO 0 1 0, aO 0 2 0, aV 113 3 [10], aO 6 0 0, aO 28 0 0, aO 17 12 0, aO 45 4 0, aC 0 (.int 1), aO 39 0 0, aC 0 (.int 0), aO 39 0 0]
def p_L_field : List Nat := [0, 1, 2, 3, 4, 5, 8, 9, 10, 13, 15, 16, 17, 18, 19]
def h_L_field : List Nat := [0, 0, 0, 0, 0, 934, 0, 0, 0, 0, 0, 0, 0, 0]
def k_L_turn : List aI := [aO 0 3 1, aC 0 (.int 0), aO 0 0 1, aO 0 1 0, aO 0 2 0, aV 114 3 [10], aO 6 0 0, aO 28 0 0, aO 17 12 0, aO 45 4 0, aC 0 (.int 1), aO 39 0 0, aC 0 (.int 0), aO 39 0 0]
def p_L_turn : List Nat := [0, 1, 2, 3, 4, 5, 8, 9, 10, 13, 15, 16, 17, 18, 19]
def h_L_turn : List Nat := [0, 0, 0, 0, 0, 962, 0, 0, 0, 0, 0, 0, 0, 0]
def k_L_pattern : List aI := [aO 0 2 1, aC 0 (.int 0), aO 0 0 1, aO 0 1 0, aV 115 2 [10], aO 6 0 0, aO 28 0 0, aO 17 11 0, aO 45 3 0, aC 0 (.int 1), aO 39 0 0, aC 0 (.int 0), aO 39 0 0]
def p_L_pattern : List Nat := [0, 1, 2, 3, 4, 7, 8, 9, 12, 13, 14, 15, 16, 17]
def h_L_pattern : List Nat := [0, 0, 0, 0, 971, 0, 0, 0, 0, 0, 0, 0, 0]
def k_L_singular : List aI := [aO 0 4 1, aC 0 (.int 0), aO 0 0 1, aO 0 1 0, aO 0 2 0, aO 0 3 0, aV 116 4 [10], aO 6 0 0, aO 28 0 0, aO 17 13 0, aO 45 5 0, aC 0 (.int 1), aO 39 0 0, aC 0 (.int 0), aO 39 0 0]
def p_L_singular : List Nat := [0, 2, 3, 4, 5, 6, 7, 10, 11, 12, 15, 17, 18, 19, 20, 21]
def h_L_singular : List Nat := [0, 0, 0, 0, 0, 0, 978, 0, 0, 0, 0, 0, 0, 0, 0]
def k_L_ridges : List aI := [aO 0 2 1, aC 0 (.int 0), aO 0 0 1, aO 0 1 0, aV 117 2 [10], aO 6 0 0, aO 28 0 0, aO 17 11 0, aO 45 3 0, aC 0 (.int 1), aO 39 0 0, aC 0 (.int 0), aO 39 0 0]
def p_L_ridges : List Nat := [0, 1, 2, 3, 4, 7, 8, 9, 12, 13, 14, 15, 16, 17]
def h_L_ridges : List Nat := [0, 0, 0, 0, 986, 0, 0, 0, 0, 0, 0, 0, 0]
def k_L_point : List aI := [aO 0 6 1, aC 0 (.int 0), aO 0 0 1, aO 0 1 0, aO 0 2 0, aO 0 3 0, aO 0 4 0, aO 0 5 0, aV 118 6 [10], aO 6 0 0, aO 28 0 0, aO 17 18 0, aO 45 7 0, aC 0 (.int 1), aO 39 0 0, aO 45 7 0, aC 0 (.int 2), aO 39 0 0, aC 0 (.int 0), aO 39 0 0]
def p_L_point : List Nat := [0, 2, 3, 4, 5, 6, 7, 9, 11, 14, 15, 16, 19, 21, 22, 23, 25, 26, 27, 28, 29]
def h_L_point : List Nat := [0, 0, 0, 0, 0, 0, 0, 0, 993, 0, 0, 0, 0, 0, 0, 0, 0, 0, 0, 0]
def k_L_mark : List aI := [aO 0 6 1, aC 0 (.int 0), aO 0 0 1, aO 0 1 0, aO 0 2 0, aO 0 3 0, aO 0 4 0, aO 0 5 0, aV 119 6 [10], aO 6 0 0, aO 28 0 0, aO 17 18 0, aO 45 7 0, aC 0 (.int 1), aO 39 0 0, aO 45 7 0, aC 0 (.int 2), aO 39 0 0, aC 0 (.int 0), aO 39 0 0]
def p_L_mark : List Nat := [0, 2, 3, 4, 5, 6, 7, 9, 11, 14, 15, 16, 19, 21, 22, 23, 25, 26, 27, 28, 29]
def h_L_mark : List Nat := [0, 0, 0, 0, 0, 0, 0, 0, 1008, 0, 0, 0, 0, 0, 0, 0, 0, 0, 0, 0]
def k_L_spot : List aI := [aO 0 6 1, aC 0 (.int 0), aO 0 0 1, aO 0 1 0, aO 0 2 0, aO 0 3 0, aO 0 4 0, aO 0 5 0, aV 120 6 [10], aO 6 0 0, aO 28 0 0, aO 17 18 0, aO 45 7 0, aC 0 (.int 1), aO 39 0 0, aO 45 7 0, aC 0 (.int 2), aO 39 0 0, aC 0 (.int 0), aO 39 0 0]
def p_L_spot : List Nat := [0, 2, 3, 4, 5, 6, 7, 9, 11, 14, 15, 16, 19, 21, 22, 23, 25, 26, 27, 28, 29]
def h_L_spot : List Nat := [0, 0, 0, 0, 0, 0, 0, 0, 1018, 0, 0, 0, 0, 0, 0, 0, 0, 0, 0, 0]
def k_L_slack : List aI := [aO 0 0 1, aO 0 1 0, aV 121 2 [10], aO 17 7 0, aO 45 2 0, aC 0 (.int 1), aO 39 0 0, aC 0 (.int 0), aO 39 0 0]
def p_L_slack : List Nat := [0, 1, 2, 5, 8, 9, 10, 11, 12, 13]
def h_L_slack : List Nat := [0, 0, 1034, 0, 0, 0, 0, 0, 0]
def k_L_lay : List aI := [aO 0 4 1, aC 0 (.int 0), aO 0 0 1, aO 0 1 0, aO 0 2 0, aO 0 3 0, aV 122 4 [10], aO 6 0 0, aO 28 0 0, aO 17 16 0, aO 45 5 0, aC 0 (.int 1), aO 39 0 0, aO 45 5 0, aC 0 (.int 2), aO 39 0 0, aC 0 (.int 0), aO 39 0 0]
def p_L_lay : List Nat := [0, 2, 3, 4, 5, 6, 7, 10, 11, 12, 15, 17, 18, 19, 21, 22, 23, 24, 25]
def h_L_lay : List Nat := [0, 0, 0, 0, 0, 0, 1043, 0, 0, 0, 0, 0, 0, 0, 0, 0, 0, 0]
def k_L_card : List aI := [aO 0 2 1, aC 0 (.int 0), aO 0 0 1, aO 0 1 0, aV 123 2 [10], aO 6 0 0, aO 28 0 0, aO 17 14 0, aO 45 3 0, aC 0 (.int 1), aO 39 0 0, aO 45 3 0, aC 0 (.int 2), aO 39 0 0, aC 0 (.int 0), aO 39 0 0]
def p_L_card : List Nat := [0, 1, 2, 3, 4, 7, 8, 9, 12, 13, 14, 15, 16, 17, 18, 19, 20]
def h_L_card : List Nat := [0, 0, 0, 0, 1070, 0, 0, 0, 0, 0, 0, 0, 0, 0, 0, 0]
def k_L_finger : List aI := [aO 0 4 1, aC 0 (.int 0), aO 0 0 1, aO 0 1 0, aO 0 2 0, aO 0 3 0, aV 124 4 [10], aO 15 10 0, aC 3 (.long 1), aO 17 11 0, aC 3 (.long 0), aO 28 0 0, aO 17 16 0, aO 45 5 0, aC 0 (.int 1), aO 39 0 0, aC 0 (.int 0), aO 39 0 0]
def p_L_finger : List Nat := [0, 2, 3, 4, 5, 6, 7, 10, 13, 14, 17, 18, 19, 22, 24, 25, 26, 27, 28]
def h_L_finger : List Nat := [0, 0, 0, 0, 0, 0, 1083, 0, 0, 0, 0, 0, 0, 0, 0, 0, 0, 0]
def k_L_doubt : List aI := [aO 0 4 1, aC 0 (.int 0), aO 0 0 1, aO 0 1 0, aO 0 2 0, aO 0 3 0, aV 125 4 [10], aO 15 10 0, aC 3 (.long 1), aO 17 11 0, aC 3 (.long 0), aO 28 0 0, aO 17 19 0, aO 45 5 0, aC 0 (.int 1), aO 39 0 0, aO 45 5 0, aC 0 (.int 2), aO 39 0 0, aC 0 (.int 0), aO 39 0 0]
def p_L_doubt : List Nat := [0, 2, 3, 4, 5, 6, 7, 10, 13, 14, 17, 18, 19, 22, 24, 25, 26, 28, 29, 30, 31, 32]
def h_L_doubt : List Nat := [0, 0, 0, 0, 0, 0, 1101, 0, 0, 0, 0, 0, 0, 0, 0, 0, 0, 0, 0, 0, 0]
def k_L_kind : List aI := [aO 0 3 1, aC 0 (.int 0), aO 0 0 1, aO 0 1 0, aO 0 2 0, aV 126 3 [10], aO 6 0 0, aO 28 0 0, aO 17 12 0, aO 45 4 0, aC 0 (.int 1), aO 39 0 0, aC 0 (.int 0), aO 39 0 0]
def p_L_kind : List Nat := [0, 1, 2, 3, 4, 5, 8, 9, 10, 13, 15, 16, 17, 18, 19]
def h_L_kind : List Nat := [0, 0, 0, 0, 0, 1113, 0, 0, 0, 0, 0, 0, 0, 0]
def k_L_number : List aI := [aO 0 3 1, aC 0 (.int 0), aO 0 0 1, aO 0 1 0, aO 0 2 0, aV 127 3 [10], aO 6 0 0, aO 28 0 0, aO 17 12 0, aO 45 4 0, aC 0 (.int 1), aO 39 0 0, aC 0 (.int 0), aO 39 0 0]
def p_L_number : List Nat := [0, 1, 2, 3, 4, 5, 8, 9, 10, 13, 15, 16, 17, 18, 19]
def h_L_number : List Nat := [0, 0, 0, 0, 0, 1130, 0, 0, 0, 0, 0, 0, 0, 0]
def k_L_drawers : List aI := [aO 0 2 1, aC 0 (.int 0), aO 0 0 1, aO 0 1 0, aV 128 2 [10], aO 6 0 0, aO 28 0 0, aO 17 11 0, aO 45 3 0, aC 0 (.int 1), aO 39 0 0, aC 0 (.int 0), aO 39 0 0]
def p_L_drawers : List Nat := [0, 1, 2, 3, 4, 7, 8, 9, 12, 13, 14, 15, 16, 17]
def h_L_drawers : List Nat := [0, 0, 0, 0, 1142, 0, 0, 0, 0, 0, 0, 0, 0]
def k_L_like : List aI := [aO 0 3 1, aC 0 (.int 0), aO 0 0 1, aO 0 1 0, aO 0 2 0, aV 129 3 [10], aO 6 0 0, aO 28 0 0, aO 17 12 0, aO 45 4 0, aC 0 (.int 1), aO 39 0 0, aC 0 (.int 0), aO 39 0 0]
def p_L_like : List Nat := [0, 1, 2, 3, 4, 5, 8, 9, 10, 13, 15, 16, 17, 18, 19]
def h_L_like : List Nat := [0, 0, 0, 0, 0, 1161, 0, 0, 0, 0, 0, 0, 0, 0]
def k_L_rules : List aI := [aO 0 2 1, aC 0 (.int 0), aO 0 0 1, aO 0 1 0, aV 132 2 [10], aO 6 0 0, aO 28 0 0, aO 17 14 0, aO 45 3 0, aC 0 (.int 1), aO 39 0 0, aO 45 3 0, aC 0 (.int 2), aO 39 0 0, aC 0 (.int 0), aO 39 0 0]
def p_L_rules : List Nat := [0, 1, 2, 3, 4, 7, 8, 9, 12, 13, 14, 15, 16, 17, 18, 19, 20]
def h_L_rules : List Nat := [0, 0, 0, 0, 1173, 0, 0, 0, 0, 0, 0, 0, 0, 0, 0, 0]
def k_L_verdict : List aI := [aO 0 4 1, aC 0 (.int 0), aO 0 0 1, aO 0 1 0, aO 0 2 0, aO 0 3 0, aV 133 4 [10], aO 6 0 0, aO 28 0 0, aO 17 13 0, aO 45 5 0, aC 0 (.int 1), aO 39 0 0, aC 0 (.int 0), aO 39 0 0]
def p_L_verdict : List Nat := [0, 2, 3, 4, 5, 6, 7, 10, 11, 12, 15, 17, 18, 19, 20, 21]
def h_L_verdict : List Nat := [0, 0, 0, 0, 0, 0, 1310, 0, 0, 0, 0, 0, 0, 0, 0]
def k_L_why : List aI := [aO 0 4 1, aC 0 (.int 0), aO 0 0 1, aO 0 1 0, aO 0 2 0, aO 0 3 0, aV 134 4 [10], aO 6 0 0, aO 28 0 0, aO 17 13 0, aO 45 5 0, aC 0 (.int 1), aO 39 0 0, aC 0 (.int 0), aO 39 0 0]
def p_L_why : List Nat := [0, 2, 3, 4, 5, 6, 7, 10, 11, 12, 15, 17, 18, 19, 20, 21]
def h_L_why : List Nat := [0, 0, 0, 0, 0, 0, 1329, 0, 0, 0, 0, 0, 0, 0, 0]
def k_L_say : List aI := [aO 0 6 1, aC 0 (.int 0), aO 0 0 1, aO 0 1 0, aO 0 2 0, aO 0 3 0, aO 0 4 0, aO 0 5 0, aV 136 6 [10], aO 6 0 0, aO 28 0 0, aO 17 18 0, aO 45 7 0, aC 0 (.int 1), aO 39 0 0, aO 45 7 0, aC 0 (.int 2), aO 39 0 0, aC 0 (.int 0), aO 39 0 0]
def p_L_say : List Nat := [0, 2, 3, 4, 5, 6, 7, 9, 11, 14, 15, 16, 19, 21, 22, 23, 25, 26, 27, 28, 29]
def h_L_say : List Nat := [0, 0, 0, 0, 0, 0, 0, 0, 1336, 0, 0, 0, 0, 0, 0, 0, 0, 0, 0, 0]
def k_L_said : List aI := [aO 0 6 1, aC 0 (.int 0), aO 0 0 1, aO 0 1 0, aO 0 2 0, aO 0 3 0, aO 0 4 0, aO 0 5 0, aV 137 6 [10], aO 6 0 0, aO 28 0 0, aO 17 15 0, aO 45 7 0, aC 0 (.int 1), aO 39 0 0, aC 0 (.int 0), aO 39 0 0]
def p_L_said : List Nat := [0, 2, 3, 4, 5, 6, 7, 9, 11, 14, 15, 16, 19, 21, 22, 23, 24, 25]
def h_L_said : List Nat := [0, 0, 0, 0, 0, 0, 0, 0, 1362, 0, 0, 0, 0, 0, 0, 0, 0]
def k_L_proved : List aI := [aO 0 5 1, aC 0 (.int 0), aO 0 0 1, aO 0 1 0, aO 0 2 0, aO 0 3 0, aO 0 4 0, aV 139 5 [10], aO 15 11 0, aC 3 (.long 1), aO 17 12 0, aC 3 (.long 0), aO 28 0 0, aO 17 17 0, aO 45 6 0, aC 0 (.int 1), aO 39 0 0, aC 0 (.int 0), aO 39 0 0]
def p_L_proved : List Nat := [0, 2, 3, 4, 5, 6, 7, 9, 12, 15, 16, 19, 20, 21, 24, 26, 27, 28, 29, 30]
def h_L_proved : List Nat := [0, 0, 0, 0, 0, 0, 0, 1373, 0, 0, 0, 0, 0, 0, 0, 0, 0, 0, 0]
def k_L_alike : List aI := [aO 0 4 1, aC 0 (.int 0), aO 0 0 1, aO 0 1 0, aO 0 2 0, aO 0 3 0, aV 141 4 [10], aO 6 0 0, aO 28 0 0, aO 17 13 0, aO 45 5 0, aC 0 (.int 1), aO 39 0 0, aC 0 (.int 0), aO 39 0 0]
def p_L_alike : List Nat := [0, 2, 3, 4, 5, 6, 7, 10, 11, 12, 15, 17, 18, 19, 20, 21]
def h_L_alike : List Nat := [0, 0, 0, 0, 0, 0, 1384, 0, 0, 0, 0, 0, 0, 0, 0]
def k_L_person : List aI := [aO 0 3 1, aC 0 (.int 0), aO 0 0 1, aO 0 1 0, aO 0 2 0, aV 144 3 [10], aO 6 0 0, aO 28 0 0, aO 17 12 0, aO 45 4 0, aC 0 (.int 1), aO 39 0 0, aC 0 (.int 0), aO 39 0 0]
def p_L_person : List Nat := [0, 1, 2, 3, 4, 5, 8, 9, 10, 13, 15, 16, 17, 18, 19]
def h_L_person : List Nat := [0, 0, 0, 0, 0, 1391, 0, 0, 0, 0, 0, 0, 0, 0]
def k_L_tell : List aI := [aO 0 3 1, aC 0 (.int 0), aO 0 0 1, aO 0 1 0, aO 0 2 0, aV 149 3 [10], aO 15 9 0, aC 3 (.long 1), aO 17 10 0, aC 3 (.long 0), aO 28 0 0, aO 17 18 0, aO 45 4 0, aC 0 (.int 1), aO 39 0 0, aO 45 4 0, aC 0 (.int 2), aO 39 0 0, aC 0 (.int 0), aO 39 0 0]
def p_L_tell : List Nat := [0, 1, 2, 3, 4, 5, 8, 11, 12, 15, 16, 17, 20, 22, 23, 24, 26, 27, 28, 29, 30]
def h_L_tell : List Nat := [0, 0, 0, 0, 0, 1398, 0, 0, 0, 0, 0, 0, 0, 0, 0, 0, 0, 0, 0, 0]
def k_L_kept : List aI := [aO 0 3 1, aC 0 (.int 0), aO 0 0 1, aO 0 1 0, aO 0 2 0, aV 150 3 [10], aO 6 0 0, aO 28 0 0, aO 17 12 0, aO 45 4 0, aC 0 (.int 1), aO 39 0 0, aC 0 (.int 0), aO 39 0 0]
def p_L_kept : List Nat := [0, 1, 2, 3, 4, 5, 8, 9, 10, 13, 15, 16, 17, 18, 19]
def h_L_kept : List Nat := [0, 0, 0, 0, 0, 1406, 0, 0, 0, 0, 0, 0, 0, 0]
def k_L_desk : List aI := [aO 0 0 1, aO 0 1 0, aV 151 2 [10], aO 17 7 0, aO 45 2 0, aC 0 (.int 1), aO 39 0 0, aC 0 (.int 0), aO 39 0 0]
def p_L_desk : List Nat := [0, 1, 2, 5, 8, 9, 10, 11, 12, 13]
def h_L_desk : List Nat := [0, 0, 1426, 0, 0, 0, 0, 0, 0]
def k_L_days : List aI := [aO 0 2 1, aC 0 (.int 0), aO 0 0 1, aO 0 1 0, aV 152 2 [10], aO 6 0 0, aO 28 0 0, aO 17 11 0, aO 45 3 0, aC 0 (.int 1), aO 39 0 0, aC 0 (.int 0), aO 39 0 0]
def p_L_days : List Nat := [0, 1, 2, 3, 4, 7, 8, 9, 12, 13, 14, 15, 16, 17]
def h_L_days : List Nat := [0, 0, 0, 0, 1434, 0, 0, 0, 0, 0, 0, 0, 0]
def k_L_look : List aI := [aO 0 3 1, aC 0 (.int 0), aO 0 0 1, aO 0 1 0, aO 0 2 0, aV 158 3 [10], aO 6 0 0, aO 28 0 0, aO 17 15 0, aO 45 4 0, aC 0 (.int 1), aO 39 0 0, aO 45 4 0, aC 0 (.int 2), aO 39 0 0, aC 0 (.int 0), aO 39 0 0]
def p_L_look : List Nat := [0, 1, 2, 3, 4, 5, 8, 9, 10, 13, 15, 16, 17, 19, 20, 21, 22, 23]
def h_L_look : List Nat := [0, 0, 0, 0, 0, 1472, 0, 0, 0, 0, 0, 0, 0, 0, 0, 0, 0]
def k_L_hit : List aI := [aO 0 3 1, aC 0 (.int 0), aO 0 0 1, aO 0 1 0, aO 0 2 0, aV 159 3 [10], aO 6 0 0, aO 28 0 0, aO 17 12 0, aO 45 4 0, aC 0 (.int 1), aO 39 0 0, aC 0 (.int 0), aO 39 0 0]
def p_L_hit : List Nat := [0, 1, 2, 3, 4, 5, 8, 9, 10, 13, 15, 16, 17, 18, 19]
def h_L_hit : List Nat := [0, 0, 0, 0, 0, 1488, 0, 0, 0, 0, 0, 0, 0, 0]
def k_L_left : List aI := [aO 0 2 1, aC 0 (.int 0), aO 0 0 1, aO 0 1 0, aV 160 2 [10], aO 6 0 0, aO 28 0 0, aO 17 11 0, aO 45 3 0, aC 0 (.int 1), aO 39 0 0, aC 0 (.int 0), aO 39 0 0]
def p_L_left : List Nat := [0, 1, 2, 3, 4, 7, 8, 9, 12, 13, 14, 15, 16, 17]
def h_L_left : List Nat := [0, 0, 0, 0, 1496, 0, 0, 0, 0, 0, 0, 0, 0]
def k_L_rare : List aI := [aO 0 3 1, aC 0 (.int 0), aO 0 0 1, aO 0 1 0, aO 0 2 0, aV 161 3 [10], aO 28 0 0, aO 17 11 0, aO 45 4 0, aC 0 (.int 1), aO 39 0 0, aC 0 (.int 0), aO 39 0 0]
def p_L_rare : List Nat := [0, 1, 2, 3, 4, 5, 8, 9, 12, 14, 15, 16, 17, 18]
def h_L_rare : List Nat := [0, 0, 0, 0, 0, 1503, 0, 0, 0, 0, 0, 0, 0]
def k_L_tear : List aI := [aO 0 3 1, aC 0 (.int 0), aO 0 0 1, aO 0 1 0, aO 0 2 0, aV 163 3 [10], aO 6 0 0, aO 28 0 0, aO 17 12 0, aO 45 4 0, aC 0 (.int 1), aO 39 0 0, aC 0 (.int 0), aO 39 0 0]
def p_L_tear : List Nat := [0, 1, 2, 3, 4, 5, 8, 9, 10, 13, 15, 16, 17, 18, 19]
def h_L_tear : List Nat := [0, 0, 0, 0, 0, 1522, 0, 0, 0, 0, 0, 0, 0, 0]
def k_J9_floorMod_7cf53 : List aI := [aO 0 0 0, aO 0 1 0, aO 5 0 1, aO 1 2 0, aO 0 0 0, aO 0 1 0, aO 4 0 5, aO 15 14 3, aO 0 2 0, aO 15 14 0, aO 0 2 0, aO 0 1 0, aO 4 0 0, aO 39 0 0, aO 0 2 0, aO 39 0 0]
def p_J9_floorMod_7cf53 : List Nat := [0, 1, 2, 3, 4, 5, 6, 7, 10, 11, 14, 15, 16, 17, 18, 19, 20]
def h_J9_floorMod_7cf53 : List Nat := [0, 0, 0, 0, 0, 0, 0, 0, 0, 0, 0, 0, 0, 0, 0, 0]
def k_J9_abs_0f7a4 : List aI := [aO 0 0 0, aO 15 5 3, aO 0 0 0, aO 6 0 3, aO 17 6 0, aO 0 0 0, aO 39 0 0]
def p_J9_abs_0f7a4 : List Nat := [0, 1, 4, 5, 6, 9, 10, 11]
def h_J9_abs_0f7a4 : List Nat := [0, 0, 0, 0, 0, 0, 0]
def k_J9_max_7cf53 : List aI := [aO 0 0 0, aO 0 1 0, aO 16 5 2, aO 0 0 0, aO 17 6 0, aO 0 1 0, aO 39 0 0]
def p_J9_max_7cf53 : List Nat := [0, 1, 2, 5, 6, 9, 10, 11]
def h_J9_max_7cf53 : List Nat := [0, 0, 0, 0, 0, 0, 0]
def k_J9_min_7cf53 : List aI := [aO 0 0 0, aO 0 1 0, aO 16 5 4, aO 0 0 0, aO 17 6 0, aO 0 1 0, aO 39 0 0]
def p_J9_min_7cf53 : List Nat := [0, 1, 2, 5, 6, 9, 10, 11]
def h_J9_min_7cf53 : List Nat := [0, 0, 0, 0, 0, 0, 0]
def k_J0_length_8abf5 : List aI := [aO 0 0 1, aO 46 0 0, aO 22 0 0, aO 0 0 1, aV 338 1 [99], aO 4 0 7, aO 39 0 0]
def p_J0_length_8abf5 : List Nat := [0, 1, 4, 5, 6, 9, 10, 11]
def h_J0_length_8abf5 : List Nat := [0, 2131, 0, 0, 1208, 0, 0]
def k_J0_coder_7d493 : List aI := [aO 43 2 0, aO 15 5 0, aO 0 0 1, aO 46 0 1, aO 17 6 0, aC 0 (.int 1), aO 39 0 0]
def p_J0_coder_7d493 : List Nat := [0, 3, 6, 7, 10, 13, 14, 15]
def h_J0_coder_7d493 : List Nat := [1212, 0, 0, 2132, 0, 0, 0]
def k_J0_charAt_5068e : List aI := [aO 0 0 1, aV 340 1 [99], aO 15 8 0, aO 0 0 1, aO 46 0 0, aO 0 1 0, aV 342 2 [], aO 39 0 0, aO 0 0 1, aO 46 0 0, aO 0 1 0, aO 99 0 0, aO 39 0 0]
def p_J0_charAt_5068e : List Nat := [0, 1, 4, 7, 8, 11, 12, 15, 16, 17, 20, 21, 24, 25]
def h_J0_charAt_5068e : List Nat := [0, 1218, 0, 0, 2131, 0, 1222, 0, 0, 2131, 0, 1233, 0]
def k_J0_isLatin1_aae02 : List aI := [aO 43 2 0, aO 15 7 0, aO 0 0 1, aO 46 0 1, aO 15 7 1, aC 0 (.int 1), aO 17 8 0, aC 0 (.int 0), aO 39 0 0]
def p_J0_isLatin1_aae02 : List Nat := [0, 3, 6, 7, 10, 13, 14, 17, 18, 19]
def h_J0_isLatin1_aae02 : List Nat := [1212, 0, 0, 2132, 0, 0, 0, 0, 0]
def k_J0_checkIndex_df160 : List aI := [aO 0 0 0, aO 0 1 0, aO 43 3 0, aV 343 3 [], aO 12 0 2, aO 39 0 3]
def p_J0_checkIndex_df160 : List Nat := [0, 1, 2, 5, 8, 9, 10]
def h_J0_checkIndex_df160 : List Nat := [0, 0, 1228, 1230, 0, 0]
def k_J1_charAt_3b067 : List aI := [aO 0 1 0, aO 0 0 1, aO 22 0 0, aV 341 2 [], aO 0 0 1, aO 0 1 0, aO 25 0 0, aC 2 (.int 255), aO 4 0 3, aO 6 0 2, aO 39 0 0]
def p_J1_charAt_3b067 : List Nat := [0, 1, 2, 3, 6, 7, 8, 9, 12, 13, 14, 15]
def h_J1_charAt_3b067 : List Nat := [0, 0, 0, 1225, 0, 0, 0, 0, 0, 0, 0]
def k_J3_checkIndex_8e157 : List aI := [aO 0 0 0, aO 15 5 2, aO 0 0 0, aO 0 1 0, aO 16 10 2, aO 0 2 1, aO 0 0 0, aO 0 1 0, aO 99 0 0, aO 99 0 0, aO 0 0 0, aO 39 0 0]
def p_J3_checkIndex_8e157 : List Nat := [0, 1, 4, 5, 6, 9, 10, 11, 12, 15, 16, 17, 18]
def h_J3_checkIndex_8e157 : List Nat := [0, 0, 0, 0, 0, 0, 0, 0, 0, 0, 0, 0]
def k_L_law : List aI := [aO 31 10 0, aO 12 0 0, aV 108 1 [100], aO 1 1 1, aO 31 11 0, aO 12 0 0, aV 180 1 [100], aO 1 2 1, aC 0 (.int 1), aO 32 1 0, aO 1 3 1, aC 0 (.int 0), aO 1 4 0, aO 0 4 0, aO 0 0 1, aO 22 0 0, aC 1 (.int 6), aO 4 0 1, aO 16 1901 4, aO 0 0 1, aO 0 4 0, aO 23 0 0, aC 1 (.int 63), aO 4 0 3, aT 1899 0 [25, 82, 99, 124, 131, 176, 221, 256, 319, 354, 429, 512, 587, 609, 664, 699, 757, 815, 860, 913, 948, 993, 1028, 1083, 1138, 1213, 1288, 1356, 1411, 1456, 1491, 1539, 1584, 1606, 1641, 1686, 1731, 1766, 1818, 1863, 1870, 1875, 1882], aO 0 1 1, aO 0 0 1, aO 0 4 0, aC 0 (.int 1), aO 4 0 0, aO 23 0 0, aO 0 0 1, aO 0 4 0, aC 0 (.int 2), aO 4 0 0, aO 23 0 0, aO 0 0 1, aO 0 4 0, aC 0 (.int 3), aO 4 0 0, aO 23 0 0, aO 0 0 1, aO 0 4 0, aC 0 (.int 4), aO 4 0 0, aO 23 0 0, aO 0 0 1, aO 0 4 0, aC 0 (.int 5), aO 4 0 0, aO 23 0 0, aV 109 6 [10], aO 0 2 1, aO 0 0 1, aO 0 4 0, aC 0 (.int 1), aO 4 0 0, aO 23 0 0, aO 0 0 1, aO 0 4 0, aC 0 (.int 2), aO 4 0 0, aO 23 0 0, aO 0 0 1, aO 0 4 0, aC 0 (.int 3), aO 4 0 0, aO 23 0 0, aO 0 0 1, aO 0 4 0, aC 0 (.int 4), aO 4 0 0, aO 23 0 0, aO 0 0 1, aO 0 4 0, aC 0 (.int 5), aO 4 0 0, aO 23 0 0, aV 184 6 [11], aO 16 1899 0, aC 0 (.int 0), aO 39 0 0, aO 0 1 1, aO 0 0 1, aO 0 4 0, aC 0 (.int 1), aO 4 0 0, aO 23 0 0, aV 110 2 [10], aO 0 2 1, aO 0 0 1, aO 0 4 0, aC 0 (.int 1), aO 4 0 0, aO 23 0 0, aV 185 2 [11], aO 16 1899 0, aC 0 (.int 0), aO 39 0 0, aO 0 1 1, aO 0 3 1, aV 298 2 [], aO 1 5 0, aO 0 2 1, aV 198 1 [11], aO 1 6 0, aO 0 2 1, aV 177 1 [11], aO 0 5 0, aO 16 112 0, aC 0 (.int 0), aO 39 0 0, aO 0 5 0, aO 15 123 1, aO 0 3 1, aC 0 (.int 0), aO 27 0 0, aO 0 6 0, aO 6 0 0, aO 10 0 0, aO 15 123 0, aC 0 (.int 0), aO 39 0 0, aO 17 1899 0, aO 0 1 1, aV 111 1 [10], aO 0 2 1, aV 194 1 [11], aO 16 1899 0, aC 0 (.int 0), aO 39 0 0, aO 0 1 1, aO 0 0 1, aO 0 4 0, aC 0 (.int 1), aO 4 0 0, aO 23 0 0, aO 0 0 1, aO 0 4 0, aC 0 (.int 2), aO 4 0 0, aO 23 0 0, aO 0 3 1, aV 299 4 [], aO 1 5 0, aO 0 2 1, aO 0 0 1, aO 0 4 0, aC 0 (.int 1), aO 4 0 0, aO 23 0 0, aO 0 0 1, aO 0 4 0, aC 0 (.int 2), aO 4 0 0, aO 23 0 0, aV 199 3 [11], aO 1 6 0, aO 0 2 1, aV 177 1 [11], aO 0 5 0, aO 16 164 0, aC 0 (.int 0), aO 39 0 0, aO 0 5 0, aO 15 175 1, aO 0 3 1, aC 0 (.int 0), aO 27 0 0, aO 0 6 0, aO 6 0 0, aO 10 0 0, aO 15 175 0, aC 0 (.int 0), aO 39 0 0, aO 17 1899 0, aO 0 1 1, aO 0 0 1, aO 0 4 0, aC 0 (.int 1), aO 4 0 0, aO 23 0 0, aO 0 0 1, aO 0 4 0, aC 0 (.int 2), aO 4 0 0, aO 23 0 0, aO 0 3 1, aV 300 4 [], aO 1 5 0, aO 0 2 1, aO 0 0 1, aO 0 4 0, aC 0 (.int 1), aO 4 0 0, aO 23 0 0, aO 0 0 1, aO 0 4 0, aC 0 (.int 2), aO 4 0 0, aO 23 0 0, aV 203 3 [11], aO 1 6 0, aO 0 2 1, aV 177 1 [11], aO 0 5 0, aO 16 209 0, aC 0 (.int 0), aO 39 0 0, aO 0 5 0, aO 15 220 1, aO 0 3 1, aC 0 (.int 0), aO 27 0 0, aO 0 6 0, aO 6 0 0, aO 10 0 0, aO 15 220 0, aC 0 (.int 0), aO 39 0 0, aO 17 1899 0, aO 0 1 1, aO 0 0 1, aO 0 4 0, aC 0 (.int 1), aO 4 0 0, aO 23 0 0, aO 0 3 1, aV 301 3 [], aO 1 5 0, aO 0 2 1, aO 0 0 1, aO 0 4 0, aC 0 (.int 1), aO 4 0 0, aO 23 0 0, aV 207 2 [11], aO 1 6 0, aO 0 2 1, aV 177 1 [11], aO 0 5 0, aO 16 244 0, aC 0 (.int 0), aO 39 0 0, aO 0 5 0, aO 15 255 1, aO 0 3 1, aC 0 (.int 0), aO 27 0 0, aO 0 6 0, aO 6 0 0, aO 10 0 0, aO 15 255 0, aC 0 (.int 0), aO 39 0 0, aO 17 1899 0, aO 0 1 1, aO 0 0 1, aO 0 4 0, aC 0 (.int 1), aO 4 0 0, aO 23 0 0, aO 0 0 1, aO 0 4 0, aC 0 (.int 2), aO 4 0 0, aO 23 0 0, aO 0 0 1, aO 0 4 0, aC 0 (.int 3), aO 4 0 0, aO 23 0 0, aO 15 275 0, aC 0 (.int 1), aO 17 276 0, aC 0 (.int 0), aO 0 3 1, aV 302 5 [], aO 1 5 0, aO 0 2 1, aO 0 0 1, aO 0 4 0, aC 0 (.int 1), aO 4 0 0, aO 23 0 0, aO 0 0 1, aO 0 4 0, aC 0 (.int 2), aO 4 0 0, aO 23 0 0, aO 0 0 1, aO 0 4 0, aC 0 (.int 3), aO 4 0 0, aO 23 0 0, aO 15 298 0, aC 0 (.int 1), aO 17 299 0, aC 0 (.int 0), aV 205 4 [11], aO 1 6 0, aO 0 2 1, aV 177 1 [11], aO 0 5 0, aO 16 307 0, aC 0 (.int 0), aO 39 0 0, aO 0 5 0, aO 15 318 1, aO 0 3 1, aC 0 (.int 0), aO 27 0 0, aO 0 6 0, aO 6 0 0, aO 10 0 0, aO 15 318 0, aC 0 (.int 0), aO 39 0 0, aO 17 1899 0, aO 0 1 1, aO 0 0 1, aO 0 4 0, aC 0 (.int 1), aO 4 0 0, aO 23 0 0, aO 0 3 1, aV 303 3 [], aO 1 5 0, aO 0 2 1, aO 0 0 1, aO 0 4 0, aC 0 (.int 1), aO 4 0 0, aO 23 0 0, aV 211 2 [11], aO 1 6 0, aO 0 2 1, aV 177 1 [11], aO 0 5 0, aO 16 342 0, aC 0 (.int 0), aO 39 0 0, aO 0 5 0, aO 15 353 1, aO 0 3 1, aC 0 (.int 0), aO 27 0 0, aO 0 6 0, aO 6 0 0, aO 10 0 0, aO 15 353 0, aC 0 (.int 0), aO 39 0 0, aO 17 1899 0, aO 0 1 1, aO 0 0 1, aO 0 4 0, aC 0 (.int 1), aO 4 0 0, aO 23 0 0, aO 0 0 1, aO 0 4 0, aC 0 (.int 2), aO 4 0 0, aO 23 0 0, aO 0 0 1, aO 0 4 0, aC 0 (.int 3), aO 4 0 0, aO 23 0 0, aO 0 0 1, aO 0 4 0, aC 0 (.int 4), aO 4 0 0, aO 23 0 0, aO 0 0 1, aO 0 4 0, aC 0 (.int 5), aO 4 0 0, aO 23 0 0, aO 0 3 1, aV 304 7 [], aO 1 5 0, aO 0 2 1, aO 0 0 1, aO 0 4 0, aC 0 (.int 1), aO 4 0 0, aO 23 0 0, aO 0 0 1, aO 0 4 0, aC 0 (.int 2), aO 4 0 0, aO 23 0 0, aO 0 0 1, aO 0 4 0, aC 0 (.int 3), aO 4 0 0, aO 23 0 0, aO 0 0 1, aO 0 4 0, aC 0 (.int 4), aO 4 0 0, aO 23 0 0, aO 0 0 1, aO 0 4 0, aC 0 (.int 5), aO 4 0 0, aO 23 0 0, aV 215 6 [11], aO 1 6 0, aO 0 2 1, aV 177 1 [11], aO 0 5 0, aO 16 417 0, aC 0 (.int 0), aO 39 0 0, aO 0 5 0, aO 15 428 1, aO 0 3 1, aC 0 (.int 0), aO 27 0 0, aO 0 6 0, aO 6 0 0, aO 10 0 0, aO 15 428 0, aC 0 (.int 0), aO 39 0 0, aO 17 1899 0, aO 0 1 1, aO 0 0 1, aO 0 4 0, aC 0 (.int 1), aO 4 0 0, aO 23 0 0, aO 0 0 1, aO 0 4 0, aC 0 (.int 2), aO 4 0 0, aO 23 0 0, aO 0 0 1, aO 0 4 0, aC 0 (.int 3), aO 4 0 0, aO 23 0 0, aO 0 0 1, aO 0 4 0, aC 0 (.int 4), aO 4 0 0, aO 23 0 0, aO 0 0 1, aO 0 4 0, aC 0 (.int 5), aO 4 0 0, aO 23 0 0, aO 15 458 0, aC 0 (.int 1), aO 17 459 0, aC 0 (.int 0), aO 0 3 1, aV 305 7 [], aO 1 5 0, aO 0 2 1, aO 0 0 1, aO 0 4 0, aC 0 (.int 1), aO 4 0 0, aO 23 0 0, aO 0 0 1, aO 0 4 0, aC 0 (.int 2), aO 4 0 0, aO 23 0 0, aO 0 0 1, aO 0 4 0, aC 0 (.int 3), aO 4 0 0, aO 23 0 0, aO 0 0 1, aO 0 4 0, aC 0 (.int 4), aO 4 0 0, aO 23 0 0, aO 0 0 1, aO 0 4 0, aC 0 (.int 5), aO 4 0 0, aO 23 0 0, aO 15 491 0, aC 0 (.int 1), aO 17 492 0, aC 0 (.int 0), aV 218 6 [11], aO 1 6 0, aO 0 2 1, aV 177 1 [11], aO 0 5 0, aO 16 500 0, aC 0 (.int 0), aO 39 0 0, aO 0 5 0, aO 15 511 1, aO 0 3 1, aC 0 (.int 0), aO 27 0 0, aO 0 6 0, aO 6 0 0, aO 10 0 0, aO 15 511 0, aC 0 (.int 0), aO 39 0 0, aO 17 1899 0, aO 0 1 1, aO 0 0 1, aO 0 4 0, aC 0 (.int 1), aO 4 0 0, aO 23 0 0, aO 0 0 1, aO 0 4 0, aC 0 (.int 2), aO 4 0 0, aO 23 0 0, aO 0 0 1, aO 0 4 0, aC 0 (.int 3), aO 4 0 0, aO 23 0 0, aO 0 0 1, aO 0 4 0, aC 0 (.int 4), aO 4 0 0, aO 23 0 0, aO 0 0 1, aO 0 4 0, aC 0 (.int 5), aO 4 0 0, aO 23 0 0, aO 0 3 1, aV 306 7 [], aO 1 5 0, aO 0 2 1, aO 0 0 1, aO 0 4 0, aC 0 (.int 1), aO 4 0 0, aO 23 0 0, aO 0 0 1, aO 0 4 0, aC 0 (.int 2), aO 4 0 0, aO 23 0 0, aO 0 0 1, aO 0 4 0, aC 0 (.int 3), aO 4 0 0, aO 23 0 0, aO 0 0 1, aO 0 4 0, aC 0 (.int 4), aO 4 0 0, aO 23 0 0, aO 0 0 1, aO 0 4 0, aC 0 (.int 5), aO 4 0 0, aO 23 0 0, aV 219 6 [11], aO 1 6 0, aO 0 2 1, aV 177 1 [11], aO 0 5 0, aO 16 575 0, aC 0 (.int 0), aO 39 0 0, aO 0 5 0, aO 15 586 1, aO 0 3 1, aC 0 (.int 0), aO 27 0 0, aO 0 6 0, aO 6 0 0, aO 10 0 0, aO 15 586 0, aC 0 (.int 0), aO 39 0 0, aO 17 1899 0, aO 0 1 1, aO 0 0 1, aO 0 4 0, aC 0 (.int 1), aO 4 0 0, aO 23 0 0, aV 307 2 [], aO 1 5 0, aO 0 2 1, aO 0 0 1, aO 0 4 0, aC 0 (.int 1), aO 4 0 0, aO 23 0 0, aV 220 2 [11], aO 0 2 1, aV 177 1 [11], aO 0 5 0, aO 16 608 0, aC 0 (.int 0), aO 39 0 0, aO 17 1899 0, aO 0 1 1, aO 0 0 1, aO 0 4 0, aC 0 (.int 1), aO 4 0 0, aO 23 0 0, aO 0 0 1, aO 0 4 0, aC 0 (.int 2), aO 4 0 0, aO 23 0 0, aO 0 0 1, aO 0 4 0, aC 0 (.int 3), aO 4 0 0, aO 23 0 0, aO 0 3 1, aV 308 5 [], aO 1 5 0, aO 0 2 1, aO 0 0 1, aO 0 4 0, aC 0 (.int 1), aO 4 0 0, aO 23 0 0, aO 0 0 1, aO 0 4 0, aC 0 (.int 2), aO 4 0 0, aO 23 0 0, aO 0 0 1, aO 0 4 0, aC 0 (.int 3), aO 4 0 0, aO 23 0 0, aV 230 4 [11], aO 1 6 0, aO 0 2 1, aV 177 1 [11], aO 0 5 0, aO 16 652 0, aC 0 (.int 0), aO 39 0 0, aO 0 5 0, aO 15 663 1, aO 0 3 1, aC 0 (.int 0), aO 27 0 0, aO 0 6 0, aO 6 0 0, aO 10 0 0, aO 15 663 0, aC 0 (.int 0), aO 39 0 0, aO 17 1899 0, aO 0 1 1, aO 0 0 1, aO 0 4 0, aC 0 (.int 1), aO 4 0 0, aO 23 0 0, aO 0 3 1, aV 309 3 [], aO 1 5 0, aO 0 2 1, aO 0 0 1, aO 0 4 0, aC 0 (.int 1), aO 4 0 0, aO 23 0 0, aV 236 2 [11], aO 1 6 0, aO 0 2 1, aV 177 1 [11], aO 0 5 0, aO 16 687 0, aC 0 (.int 0), aO 39 0 0, aO 0 5 0, aO 15 698 1, aO 0 3 1, aC 0 (.int 0), aO 27 0 0, aO 0 6 0, aO 6 0 0, aO 10 0 0, aO 15 698 0, aC 0 (.int 0), aO 39 0 0, aO 17 1899 0, aO 0 1 1, aO 0 0 1, aO 0 4 0, aC 0 (.int 1), aO 4 0 0, aO 23 0 0, aO 0 0 1, aO 0 4 0, aC 0 (.int 2), aO 4 0 0, aO 23 0 0, aO 0 0 1, aO 0 4 0, aC 0 (.int 3), aO 4 0 0, aO 23 0 0, aO 0 3 1, aV 310 5 [], aO 1 5 0, aO 0 2 1, aO 0 0 1, aO 0 4 0, aC 0 (.int 1), aO 4 0 0, aO 23 0 0, aO 0 0 1, aO 0 4 0, aC 0 (.int 2), aO 4 0 0, aO 23 0 0, aO 0 0 1, aO 0 4 0, aC 0 (.int 3), aO 4 0 0, aO 23 0 0, aV 238 4 [11], aO 1 6 0, aO 0 2 1, aV 177 1 [11], aO 0 5 0, aO 16 742 0, aC 0 (.int 0), aO 39 0 0, aO 0 5 0, aO 15 756 1, aO 0 3 1, aC 0 (.int 0), aO 27 0 0, aO 0 6 0, aO 15 751 0, aC 3 (.long 1), aO 17 752 0, aC 3 (.long 0), aO 10 0 0, aO 15 756 0, aC 0 (.int 0), aO 39 0 0, aO 17 1899 0, aO 0 1 1, aO 0 0 1, aO 0 4 0, aC 0 (.int 1), aO 4 0 0, aO 23 0 0, aO 0 0 1, aO 0 4 0, aC 0 (.int 2), aO 4 0 0, aO 23 0 0, aO 0 0 1, aO 0 4 0, aC 0 (.int 3), aO 4 0 0, aO 23 0 0, aO 0 3 1, aV 311 5 [], aO 1 5 0, aO 0 2 1, aO 0 0 1, aO 0 4 0, aC 0 (.int 1), aO 4 0 0, aO 23 0 0, aO 0 0 1, aO 0 4 0, aC 0 (.int 2), aO 4 0 0, aO 23 0 0, aO 0 0 1, aO 0 4 0, aC 0 (.int 3), aO 4 0 0, aO 23 0 0, aV 239 4 [11], aO 1 6 0, aO 0 2 1, aV 177 1 [11], aO 0 5 0, aO 16 800 0, aC 0 (.int 0), aO 39 0 0, aO 0 5 0, aO 15 814 1, aO 0 3 1, aC 0 (.int 0), aO 27 0 0, aO 0 6 0, aO 15 809 0, aC 3 (.long 1), aO 17 810 0, aC 3 (.long 0), aO 10 0 0, aO 15 814 0, aC 0 (.int 0), aO 39 0 0, aO 17 1899 0, aO 0 1 1, aO 0 0 1, aO 0 4 0, aC 0 (.int 1), aO 4 0 0, aO 23 0 0, aO 0 0 1, aO 0 4 0, aC 0 (.int 2), aO 4 0 0, aO 23 0 0, aO 0 3 1, aV 312 4 [], aO 1 5 0, aO 0 2 1, aO 0 0 1, aO 0 4 0, aC 0 (.int 1), aO 4 0 0, aO 23 0 0, aO 0 0 1, aO 0 4 0, aC 0 (.int 2), aO 4 0 0, aO 23 0 0, aV 242 3 [11], aO 1 6 0, aO 0 2 1, aV 177 1 [11], aO 0 5 0, aO 16 848 0, aC 0 (.int 0), aO 39 0 0, aO 0 5 0, aO 15 859 1, aO 0 3 1, aC 0 (.int 0), aO 27 0 0, aO 0 6 0, aO 6 0 0, aO 10 0 0, aO 15 859 0, aC 0 (.int 0), aO 39 0 0, aO 17 1899 0, aO 0 1 1, aO 0 0 1, aO 0 4 0, aC 0 (.int 1), aO 4 0 0, aO 23 0 0, aO 0 0 1, aO 0 4 0, aC 0 (.int 2), aO 4 0 0, aO 23 0 0, aO 15 874 0, aC 0 (.int 1), aO 17 875 0, aC 0 (.int 0), aO 0 3 1, aV 313 4 [], aO 1 5 0, aO 0 2 1, aO 0 0 1, aO 0 4 0, aC 0 (.int 1), aO 4 0 0, aO 23 0 0, aO 0 0 1, aO 0 4 0, aC 0 (.int 2), aO 4 0 0, aO 23 0 0, aO 15 892 0, aC 0 (.int 1), aO 17 893 0, aC 0 (.int 0), aV 244 3 [11], aO 1 6 0, aO 0 2 1, aV 177 1 [11], aO 0 5 0, aO 16 901 0, aC 0 (.int 0), aO 39 0 0, aO 0 5 0, aO 15 912 1, aO 0 3 1, aC 0 (.int 0), aO 27 0 0, aO 0 6 0, aO 6 0 0, aO 10 0 0, aO 15 912 0, aC 0 (.int 0), aO 39 0 0, aO 17 1899 0, aO 0 1 1, aO 0 0 1, aO 0 4 0, aC 0 (.int 1), aO 4 0 0, aO 23 0 0, aO 0 3 1, aV 314 3 [], aO 1 5 0, aO 0 2 1, aO 0 0 1, aO 0 4 0, aC 0 (.int 1), aO 4 0 0, aO 23 0 0, aV 246 2 [11], aO 1 6 0, aO 0 2 1, aV 177 1 [11], aO 0 5 0, aO 16 936 0, aC 0 (.int 0), aO 39 0 0, aO 0 5 0, aO 15 947 1, aO 0 3 1, aC 0 (.int 0), aO 27 0 0, aO 0 6 0, aO 6 0 0, aO 10 0 0, aO 15 947 0, aC 0 (.int 0), aO 39 0 0, aO 17 1899 0, aO 0 1 1, aO 0 0 1, aO 0 4 0, aC 0 (.int 1), aO 4 0 0, aO 23 0 0, aO 0 0 1, aO 0 4 0, aC 0 (.int 2), aO 4 0 0, aO 23 0 0, aO 0 3 1, aV 315 4 [], aO 1 5 0, aO 0 2 1, aO 0 0 1, aO 0 4 0, aC 0 (.int 1), aO 4 0 0, aO 23 0 0, aO 0 0 1, aO 0 4 0, aC 0 (.int 2), aO 4 0 0, aO 23 0 0, aV 247 3 [11], aO 1 6 0, aO 0 2 1, aV 177 1 [11], aO 0 5 0, aO 16 981 0, aC 0 (.int 0), aO 39 0 0, aO 0 5 0, aO 15 992 1, aO 0 3 1, aC 0 (.int 0), aO 27 0 0, aO 0 6 0, aO 6 0 0, aO 10 0 0, aO 15 992 0, aC 0 (.int 0), aO 39 0 0, aO 17 1899 0, aO 0 1 1, aO 0 0 1, aO 0 4 0, aC 0 (.int 1), aO 4 0 0, aO 23 0 0, aO 0 3 1, aV 316 3 [], aO 1 5 0, aO 0 2 1, aO 0 0 1, aO 0 4 0, aC 0 (.int 1), aO 4 0 0, aO 23 0 0, aV 256 2 [11], aO 1 6 0, aO 0 2 1, aV 177 1 [11], aO 0 5 0, aO 16 1016 0, aC 0 (.int 0), aO 39 0 0, aO 0 5 0, aO 15 1027 1, aO 0 3 1, aC 0 (.int 0), aO 27 0 0, aO 0 6 0, aO 6 0 0, aO 10 0 0, aO 15 1027 0, aC 0 (.int 0), aO 39 0 0, aO 17 1899 0, aO 0 1 1, aO 0 0 1, aO 0 4 0, aC 0 (.int 1), aO 4 0 0, aO 23 0 0, aO 0 0 1, aO 0 4 0, aC 0 (.int 2), aO 4 0 0, aO 23 0 0, aO 0 0 1, aO 0 4 0, aC 0 (.int 3), aO 4 0 0, aO 23 0 0, aO 0 3 1, aV 317 5 [], aO 1 5 0, aO 0 2 1, aO 0 0 1, aO 0 4 0, aC 0 (.int 1), aO 4 0 0, aO 23 0 0, aO 0 0 1, aO 0 4 0, aC 0 (.int 2), aO 4 0 0, aO 23 0 0, aO 0 0 1, aO 0 4 0, aC 0 (.int 3), aO 4 0 0, aO 23 0 0, aV 265 4 [11], aO 1 6 0, aO 0 2 1, aV 177 1 [11], aO 0 5 0, aO 16 1071 0, aC 0 (.int 0), aO 39 0 0, aO 0 5 0, aO 15 1082 1, aO 0 3 1, aC 0 (.int 0), aO 27 0 0, aO 0 6 0, aO 6 0 0, aO 10 0 0, aO 15 1082 0, aC 0 (.int 0), aO 39 0 0, aO 17 1899 0, aO 0 1 1, aO 0 0 1, aO 0 4 0, aC 0 (.int 1), aO 4 0 0, aO 23 0 0, aO 0 0 1, aO 0 4 0, aC 0 (.int 2), aO 4 0 0, aO 23 0 0, aO 0 0 1, aO 0 4 0, aC 0 (.int 3), aO 4 0 0, aO 23 0 0, aO 0 3 1, aV 318 5 [], aO 1 5 0, aO 0 2 1, aO 0 0 1, aO 0 4 0, aC 0 (.int 1), aO 4 0 0, aO 23 0 0, aO 0 0 1, aO 0 4 0, aC 0 (.int 2), aO 4 0 0, aO 23 0 0, aO 0 0 1, aO 0 4 0, aC 0 (.int 3), aO 4 0 0, aO 23 0 0, aV 266 4 [11], aO 1 6 0, aO 0 2 1, aV 177 1 [11], aO 0 5 0, aO 16 1126 0, aC 0 (.int 0), aO 39 0 0, aO 0 5 0, aO 15 1137 1, aO 0 3 1, aC 0 (.int 0), aO 27 0 0, aO 0 6 0, aO 6 0 0, aO 10 0 0, aO 15 1137 0, aC 0 (.int 0), aO 39 0 0, aO 17 1899 0, aO 0 1 1, aO 0 0 1, aO 0 4 0, aC 0 (.int 1), aO 4 0 0, aO 23 0 0, aO 0 0 1, aO 0 4 0, aC 0 (.int 2), aO 4 0 0, aO 23 0 0, aO 0 0 1, aO 0 4 0, aC 0 (.int 3), aO 4 0 0, aO 23 0 0, aO 0 0 1, aO 0 4 0, aC 0 (.int 4), aO 4 0 0, aO 23 0 0, aO 0 0 1, aO 0 4 0, aC 0 (.int 5), aO 4 0 0, aO 23 0 0, aO 0 3 1, aV 319 7 [], aO 1 5 0, aO 0 2 1, aO 0 0 1, aO 0 4 0, aC 0 (.int 1), aO 4 0 0, aO 23 0 0, aO 0 0 1, aO 0 4 0, aC 0 (.int 2), aO 4 0 0, aO 23 0 0, aO 0 0 1, aO 0 4 0, aC 0 (.int 3), aO 4 0 0, aO 23 0 0, aO 0 0 1, aO 0 4 0, aC 0 (.int 4), aO 4 0 0, aO 23 0 0, aO 0 0 1, aO 0 4 0, aC 0 (.int 5), aO 4 0 0, aO 23 0 0, aV 271 6 [11], aO 1 6 0, aO 0 2 1, aV 177 1 [11], aO 0 5 0, aO 16 1201 0, aC 0 (.int 0), aO 39 0 0, aO 0 5 0, aO 15 1212 1, aO 0 3 1, aC 0 (.int 0), aO 27 0 0, aO 0 6 0, aO 6 0 0, aO 10 0 0, aO 15 1212 0, aC 0 (.int 0), aO 39 0 0, aO 17 1899 0, aO 0 1 1, aO 0 0 1, aO 0 4 0, aC 0 (.int 1), aO 4 0 0, aO 23 0 0, aO 0 0 1, aO 0 4 0, aC 0 (.int 2), aO 4 0 0, aO 23 0 0, aO 0 0 1, aO 0 4 0, aC 0 (.int 3), aO 4 0 0, aO 23 0 0, aO 0 0 1, aO 0 4 0, aC 0 (.int 4), aO 4 0 0, aO 23 0 0, aO 0 0 1, aO 0 4 0, aC 0 (.int 5), aO 4 0 0, aO 23 0 0, aO 0 3 1, aV 320 7 [], aO 1 5 0, aO 0 2 1, aO 0 0 1, aO 0 4 0, aC 0 (.int 1), aO 4 0 0, aO 23 0 0, aO 0 0 1, aO 0 4 0, aC 0 (.int 2), aO 4 0 0, aO 23 0 0, aO 0 0 1, aO 0 4 0, aC 0 (.int 3), aO 4 0 0, aO 23 0 0, aO 0 0 1, aO 0 4 0, aC 0 (.int 4), aO 4 0 0, aO 23 0 0, aO 0 0 1, aO 0 4 0, aC 0 (.int 5), aO 4 0 0, aO 23 0 0, aV 273 6 [11], aO 1 6 0, aO 0 2 1, aV 177 1 [11], aO 0 5 0, aO 16 1276 0, aC 0 (.int 0), aO 39 0 0, aO 0 5 0, aO 15 1287 1, aO 0 3 1, aC 0 (.int 0), aO 27 0 0, aO 0 6 0, aO 6 0 0, aO 10 0 0, aO 15 1287 0, aC 0 (.int 0), aO 39 0 0, aO 17 1899 0, aO 0 1 1, aO 0 0 1, aO 0 4 0, aC 0 (.int 1), aO 4 0 0, aO 23 0 0, aO 0 0 1, aO 0 4 0, aC 0 (.int 2), aO 4 0 0, aO 23 0 0, aO 0 0 1, aO 0 4 0, aC 0 (.int 3), aO 4 0 0, aO 23 0 0, aO 0 0 1, aO 0 4 0, aC 0 (.int 4), aO 4 0 0, aO 23 0 0, aO 0 3 1, aV 321 6 [], aO 1 5 0, aO 0 2 1, aO 0 0 1, aO 0 4 0, aC 0 (.int 1), aO 4 0 0, aO 23 0 0, aO 0 0 1, aO 0 4 0, aC 0 (.int 2), aO 4 0 0, aO 23 0 0, aO 0 0 1, aO 0 4 0, aC 0 (.int 3), aO 4 0 0, aO 23 0 0, aO 0 0 1, aO 0 4 0, aC 0 (.int 4), aO 4 0 0, aO 23 0 0, aV 275 5 [11], aO 1 6 0, aO 0 2 1, aV 177 1 [11], aO 0 5 0, aO 16 1341 0, aC 0 (.int 0), aO 39 0 0, aO 0 5 0, aO 15 1355 1, aO 0 3 1, aC 0 (.int 0), aO 27 0 0, aO 0 6 0, aO 15 1350 0, aC 3 (.long 1), aO 17 1351 0, aC 3 (.long 0), aO 10 0 0, aO 15 1355 0, aC 0 (.int 0), aO 39 0 0, aO 17 1899 0, aO 0 1 1, aO 0 0 1, aO 0 4 0, aC 0 (.int 1), aO 4 0 0, aO 23 0 0, aO 0 0 1, aO 0 4 0, aC 0 (.int 2), aO 4 0 0, aO 23 0 0, aO 0 0 1, aO 0 4 0, aC 0 (.int 3), aO 4 0 0, aO 23 0 0, aO 0 3 1, aV 322 5 [], aO 1 5 0, aO 0 2 1, aO 0 0 1, aO 0 4 0, aC 0 (.int 1), aO 4 0 0, aO 23 0 0, aO 0 0 1, aO 0 4 0, aC 0 (.int 2), aO 4 0 0, aO 23 0 0, aO 0 0 1, aO 0 4 0, aC 0 (.int 3), aO 4 0 0, aO 23 0 0, aV 277 4 [11], aO 1 6 0, aO 0 2 1, aV 177 1 [11], aO 0 5 0, aO 16 1399 0, aC 0 (.int 0), aO 39 0 0, aO 0 5 0, aO 15 1410 1, aO 0 3 1, aC 0 (.int 0), aO 27 0 0, aO 0 6 0, aO 6 0 0, aO 10 0 0, aO 15 1410 0, aC 0 (.int 0), aO 39 0 0, aO 17 1899 0, aO 0 1 1, aO 0 0 1, aO 0 4 0, aC 0 (.int 1), aO 4 0 0, aO 23 0 0, aO 0 0 1, aO 0 4 0, aC 0 (.int 2), aO 4 0 0, aO 23 0 0, aO 0 3 1, aV 323 4 [], aO 1 5 0, aO 0 2 1, aO 0 0 1, aO 0 4 0, aC 0 (.int 1), aO 4 0 0, aO 23 0 0, aO 0 0 1, aO 0 4 0, aC 0 (.int 2), aO 4 0 0, aO 23 0 0, aV 280 3 [11], aO 1 6 0, aO 0 2 1, aV 177 1 [11], aO 0 5 0, aO 16 1444 0, aC 0 (.int 0), aO 39 0 0, aO 0 5 0, aO 15 1455 1, aO 0 3 1, aC 0 (.int 0), aO 27 0 0, aO 0 6 0, aO 6 0 0, aO 10 0 0, aO 15 1455 0, aC 0 (.int 0), aO 39 0 0, aO 17 1899 0, aO 0 1 1, aO 0 0 1, aO 0 4 0, aC 0 (.int 1), aO 4 0 0, aO 23 0 0, aO 0 0 1, aO 0 4 0, aC 0 (.int 2), aO 4 0 0, aO 23 0 0, aO 15 1470 0, aC 0 (.int 1), aO 17 1471 0, aC 0 (.int 0), aV 145 3 [10], aO 0 2 1, aO 0 0 1, aO 0 4 0, aC 0 (.int 1), aO 4 0 0, aO 23 0 0, aO 0 0 1, aO 0 4 0, aC 0 (.int 2), aO 4 0 0, aO 23 0 0, aO 15 1486 0, aC 0 (.int 1), aO 17 1487 0, aC 0 (.int 0), aV 281 3 [11], aO 16 1899 0, aC 0 (.int 0), aO 39 0 0, aO 0 1 1, aO 0 0 1, aO 0 4 0, aC 0 (.int 1), aO 4 0 0, aO 23 0 0, aO 0 0 1, aO 0 4 0, aC 0 (.int 2), aO 4 0 0, aO 23 0 0, aO 0 3 1, aV 324 4 [], aO 1 5 0, aO 0 2 1, aO 0 0 1, aO 0 4 0, aC 0 (.int 1), aO 4 0 0, aO 23 0 0, aO 0 0 1, aO 0 4 0, aC 0 (.int 2), aO 4 0 0, aO 23 0 0, aV 270 3 [11], aO 1 6 0, aO 0 2 1, aV 177 1 [11], aO 0 5 0, aO 16 1524 0, aC 0 (.int 0), aO 39 0 0, aO 0 5 0, aO 15 1538 1, aO 0 3 1, aC 0 (.int 0), aO 27 0 0, aO 0 6 0, aO 15 1533 0, aC 3 (.long 1), aO 17 1534 0, aC 3 (.long 0), aO 10 0 0, aO 15 1538 0, aC 0 (.int 0), aO 39 0 0, aO 17 1899 0, aO 0 1 1, aO 0 0 1, aO 0 4 0, aC 0 (.int 1), aO 4 0 0, aO 23 0 0, aO 0 0 1, aO 0 4 0, aC 0 (.int 2), aO 4 0 0, aO 23 0 0, aO 0 3 1, aV 325 4 [], aO 1 5 0, aO 0 2 1, aO 0 0 1, aO 0 4 0, aC 0 (.int 1), aO 4 0 0, aO 23 0 0, aO 0 0 1, aO 0 4 0, aC 0 (.int 2), aO 4 0 0, aO 23 0 0, aV 269 3 [11], aO 1 6 0, aO 0 2 1, aV 177 1 [11], aO 0 5 0, aO 16 1572 0, aC 0 (.int 0), aO 39 0 0, aO 0 5 0, aO 15 1583 1, aO 0 3 1, aC 0 (.int 0), aO 27 0 0, aO 0 6 0, aO 6 0 0, aO 10 0 0, aO 15 1583 0, aC 0 (.int 0), aO 39 0 0, aO 17 1899 0, aO 0 1 1, aO 0 0 1, aO 0 4 0, aC 0 (.int 1), aO 4 0 0, aO 23 0 0, aV 326 2 [], aO 1 5 0, aO 0 2 1, aO 0 0 1, aO 0 4 0, aC 0 (.int 1), aO 4 0 0, aO 23 0 0, aV 282 2 [11], aO 0 2 1, aV 177 1 [11], aO 0 5 0, aO 16 1605 0, aC 0 (.int 0), aO 39 0 0, aO 17 1899 0, aO 0 1 1, aO 0 0 1, aO 0 4 0, aC 0 (.int 1), aO 4 0 0, aO 23 0 0, aO 0 3 1, aV 327 3 [], aO 1 5 0, aO 0 2 1, aO 0 0 1, aO 0 4 0, aC 0 (.int 1), aO 4 0 0, aO 23 0 0, aV 288 2 [11], aO 1 6 0, aO 0 2 1, aV 177 1 [11], aO 0 5 0, aO 16 1629 0, aC 0 (.int 0), aO 39 0 0, aO 0 5 0, aO 15 1640 1, aO 0 3 1, aC 0 (.int 0), aO 27 0 0, aO 0 6 0, aO 6 0 0, aO 10 0 0, aO 15 1640 0, aC 0 (.int 0), aO 39 0 0, aO 17 1899 0, aO 0 1 1, aO 0 0 1, aO 0 4 0, aC 0 (.int 1), aO 4 0 0, aO 23 0 0, aO 0 0 1, aO 0 4 0, aC 0 (.int 2), aO 4 0 0, aO 23 0 0, aO 0 3 1, aV 328 4 [], aO 1 5 0, aO 0 2 1, aO 0 0 1, aO 0 4 0, aC 0 (.int 1), aO 4 0 0, aO 23 0 0, aO 0 0 1, aO 0 4 0, aC 0 (.int 2), aO 4 0 0, aO 23 0 0, aV 289 3 [11], aO 1 6 0, aO 0 2 1, aV 177 1 [11], aO 0 5 0, aO 16 1674 0, aC 0 (.int 0), aO 39 0 0, aO 0 5 0, aO 15 1685 1, aO 0 3 1, aC 0 (.int 0), aO 27 0 0, aO 0 6 0, aO 6 0 0, aO 10 0 0, aO 15 1685 0, aC 0 (.int 0), aO 39 0 0, aO 17 1899 0, aO 0 1 1, aO 0 0 1, aO 0 4 0, aC 0 (.int 1), aO 4 0 0, aO 23 0 0, aO 0 0 1, aO 0 4 0, aC 0 (.int 2), aO 4 0 0, aO 23 0 0, aO 0 3 1, aV 329 4 [], aO 1 5 0, aO 0 2 1, aO 0 0 1, aO 0 4 0, aC 0 (.int 1), aO 4 0 0, aO 23 0 0, aO 0 0 1, aO 0 4 0, aC 0 (.int 2), aO 4 0 0, aO 23 0 0, aV 290 3 [11], aO 1 6 0, aO 0 2 1, aV 177 1 [11], aO 0 5 0, aO 16 1719 0, aC 0 (.int 0), aO 39 0 0, aO 0 5 0, aO 15 1730 1, aO 0 3 1, aC 0 (.int 0), aO 27 0 0, aO 0 6 0, aO 6 0 0, aO 10 0 0, aO 15 1730 0, aC 0 (.int 0), aO 39 0 0, aO 17 1899 0, aO 0 1 1, aO 0 0 1, aO 0 4 0, aC 0 (.int 1), aO 4 0 0, aO 23 0 0, aO 0 3 1, aV 330 3 [], aO 1 5 0, aO 0 2 1, aO 0 0 1, aO 0 4 0, aC 0 (.int 1), aO 4 0 0, aO 23 0 0, aV 291 2 [11], aO 1 6 0, aO 0 2 1, aV 177 1 [11], aO 0 5 0, aO 16 1754 0, aC 0 (.int 0), aO 39 0 0, aO 0 5 0, aO 15 1765 1, aO 0 3 1, aC 0 (.int 0), aO 27 0 0, aO 0 6 0, aO 6 0 0, aO 10 0 0, aO 15 1765 0, aC 0 (.int 0), aO 39 0 0, aO 17 1899 0, aO 0 1 1, aO 0 0 1, aO 0 4 0, aC 0 (.int 1), aO 4 0 0, aO 23 0 0, aO 0 0 1, aO 0 4 0, aC 0 (.int 2), aO 4 0 0, aO 23 0 0, aO 15 1780 0, aC 0 (.int 1), aO 17 1781 0, aC 0 (.int 0), aO 0 3 1, aV 331 4 [], aO 1 5 0, aO 0 2 1, aO 0 0 1, aO 0 4 0, aC 0 (.int 1), aO 4 0 0, aO 23 0 0, aO 0 0 1, aO 0 4 0, aC 0 (.int 2), aO 4 0 0, aO 23 0 0, aO 15 1798 0, aC 0 (.int 1), aO 17 1799 0, aC 0 (.int 0), aV 293 3 [11], aO 1 6 2, aO 0 2 1, aV 177 1 [11], aO 0 5 0, aO 16 1807 0, aC 0 (.int 0), aO 39 0 0, aO 0 5 0, aO 15 1817 1, aO 0 3 1, aC 0 (.int 0), aO 27 0 0, aO 0 6 2, aO 10 0 0, aO 15 1817 0, aC 0 (.int 0), aO 39 0 0, aO 17 1899 0, aO 0 1 1, aO 0 0 1, aO 0 4 0, aC 0 (.int 1), aO 4 0 0, aO 23 0 0, aO 0 0 1, aO 0 4 0, aC 0 (.int 2), aO 4 0 0, aO 23 0 0, aO 0 3 1, aV 332 4 [], aO 1 5 0, aO 0 2 1, aO 0 0 1, aO 0 4 0, aC 0 (.int 1), aO 4 0 0, aO 23 0 0, aO 0 0 1, aO 0 4 0, aC 0 (.int 2), aO 4 0 0, aO 23 0 0, aV 295 3 [11], aO 1 6 0, aO 0 2 1, aV 177 1 [11], aO 0 5 0, aO 16 1851 0, aC 0 (.int 0), aO 39 0 0, aO 0 5 0, aO 15 1862 1, aO 0 3 1, aC 0 (.int 0), aO 27 0 0, aO 0 6 0, aO 6 0 0, aO 10 0 0, aO 15 1862 0, aC 0 (.int 0), aO 39 0 0, aO 17 1899 0, aO 0 1 1, aV 164 1 [10], aO 0 2 1, aV 296 1 [11], aO 16 1899 0, aC 0 (.int 0), aO 39 0 0, aO 0 1 1, aV 166 1 [10], aO 0 2 1, aV 182 1 [11], aO 17 1899 0, aO 0 1 1, aV 167 1 [10], aO 0 2 1, aV 183 1 [11], aO 16 1899 0, aC 0 (.int 0), aO 39 0 0, aO 0 1 1, aO 0 0 1, aO 0 4 0, aC 0 (.int 1), aO 4 0 0, aO 23 0 0, aV 168 2 [10], aO 0 2 1, aO 0 0 1, aO 0 4 0, aC 0 (.int 1), aO 4 0 0, aO 23 0 0, aV 297 2 [11], aO 16 1899 0, aC 0 (.int 0), aO 39 0 0, aN 4 6, aO 17 13 0, aC 0 (.int 1), aO 39 0 0]
def p_L_law : List Nat := [0, 3, 4, 7, 8, 11, 12, 15, 16, 17, 19, 20, 21, 23, 25, 26, 27, 29, 30, 33, 34, 36, 37, 39, 40, 228, 229, 230, 232, 233, 234, 235, 236, 238, 239, 240, 241, 242, 244, 245, 246, 247, 248, 250, 251, 252, 253, 254, 256, 257, 258, 259, 262, 263, 264, 266, 267, 268, 269, 270, 272, 273, 274, 275, 276, 278, 279, 280, 281, 282, 284, 285, 286, 287, 288, 290, 291, 292, 293, 296, 299, 300, 301, 302, 303, 305, 306, 307, 308, 311, 312, 313, 315, 316, 317, 318, 321, 324, 325, 326, 327, 328, 331, 333, 334, 337, 339, 340, 343, 345, 348, 349, 350, 352, 355, 356, 357, 358, 360, 361, 362, 365, 366, 367, 370, 371, 374, 375, 378, 381, 382, 383, 384, 385, 387, 388, 389, 390, 391, 393, 394, 395, 396, 397, 400, 402, 403, 404, 406, 407, 408, 409, 410, 412, 413, 414, 415, 418, 420, 421, 424, 426, 429, 430, 431, 433, 436, 437, 438, 439, 441, 442, 443, 446, 447, 448, 451, 452, 453, 455, 456, 457, 458, 459, 461, 462, 463, 464, 465, 468, 470, 471, 472, 474, 475, 476, 477, 478, 480, 481, 482, 483, 486, 488, 489, 492, 494, 497, 498, 499, 501, 504, 505, 506, 507, 509, 510, 511, 514, 515, 516, 519, 520, 521, 523, 524, 525, 526, 527, 530, 532, 533, 534, 536, 537, 538, 539, 542, 544, 545, 548, 550, 553, 554, 555, 557, 560, 561, 562, 563, 565, 566, 567, 570, 571, 572, 575, 576, 577, 579, 580, 581, 582, 583, 585, 586, 587, 588, 589, 591, 592, 593, 594, 597, 598, 601, 602, 603, 606, 608, 609, 610, 612, 613, 614, 615, 616, 618, 619, 620, 621, 622, 624, 625, 626, 627, 630, 631, 634, 635, 638, 640, 641, 644, 646, 649, 650, 651, 653, 656, 657, 658, 659, 661, 662, 663, 666, 667, 668, 671, 672, 673, 675, 676, 677, 678, 679, 682, 684, 685, 686, 688, 689, 690, 691, 694, 696, 697, 700, 702, 705, 706, 707, 709, 712, 713, 714, 715, 717, 718, 719, 722, 723, 724, 727, 728, 729, 731, 732, 733, 734, 735, 737, 738, 739, 740, 741, 743, 744, 745, 746, 747, 749, 750, 751, 752, 753, 755, 756, 757, 758, 759, 762, 764, 765, 766, 768, 769, 770, 771, 772, 774, 775, 776, 777, 778, 780, 781, 782, 783, 784, 786, 787, 788, 789, 790, 792, 793, 794, 795, 798, 800, 801, 804, 806, 809, 810, 811, 813, 816, 817, 818, 819, 821, 822, 823, 826, 827, 828, 831, 832, 833, 835, 836, 837, 838, 839, 841, 842, 843, 844, 845, 847, 848, 849, 850, 851, 853, 854, 855, 856, 857, 859, 860, 861, 862, 865, 866, 869, 870, 871, 874, 876, 877, 878, 880, 881, 882, 883, 884, 886, 887, 888, 889, 890, 892, 893, 894, 895, 896, 898, 899, 900, 901, 902, 904, 905, 906, 907, 910, 911, 914, 915, 918, 920, 921, 924, 926, 929, 930, 931, 933, 936, 937, 938, 939, 941, 942, 943, 946, 947, 948, 951, 952, 953, 955, 956, 957, 958, 959, 961, 962, 963, 964, 965, 967, 968, 969, 970, 971, 973, 974, 975, 976, 977, 979, 980, 981, 982, 983, 986, 988, 989, 990, 992, 993, 994, 995, 996, 998, 999, 1000, 1001, 1002, 1004, 1005, 1006, 1007, 1008, 1010, 1011, 1012, 1013, 1014, 1016, 1017, 1018, 1019, 1022, 1024, 1025, 1028, 1030, 1033, 1034, 1035, 1037, 1040, 1041, 1042, 1043, 1045, 1046, 1047, 1050, 1051, 1052, 1055, 1056, 1057, 1059, 1060, 1061, 1062, 1065, 1067, 1068, 1069, 1071, 1072, 1073, 1074, 1077, 1078, 1081, 1083, 1086, 1087, 1088, 1091, 1092, 1093, 1095, 1096, 1097, 1098, 1099, 1101, 1102, 1103, 1104, 1105, 1107, 1108, 1109, 1110, 1111, 1114, 1116, 1117, 1118, 1120, 1121, 1122, 1123, 1124, 1126, 1127, 1128, 1129, 1130, 1132, 1133, 1134, 1135, 1138, 1140, 1141, 1144, 1146, 1149, 1150, 1151, 1153, 1156, 1157, 1158, 1159, 1161, 1162, 1163, 1166, 1167, 1168, 1171, 1172, 1173, 1175, 1176, 1177, 1178, 1179, 1182, 1184, 1185, 1186, 1188, 1189, 1190, 1191, 1194, 1196, 1197, 1200, 1202, 1205, 1206, 1207, 1209, 1212, 1213, 1214, 1215, 1217, 1218, 1219, 1222, 1223, 1224, 1227, 1228, 1229, 1231, 1232, 1233, 1234, 1235, 1237, 1238, 1239, 1240, 1241, 1243, 1244, 1245, 1246, 1247, 1250, 1252, 1253, 1254, 1256, 1257, 1258, 1259, 1260, 1262, 1263, 1264, 1265, 1266, 1268, 1269, 1270, 1271, 1274, 1276, 1277, 1280, 1282, 1285, 1286, 1287, 1289, 1292, 1293, 1294, 1295, 1297, 1300, 1301, 1304, 1305, 1306, 1309, 1310, 1311, 1314, 1315, 1316, 1318, 1319, 1320, 1321, 1322, 1324, 1325, 1326, 1327, 1328, 1330, 1331, 1332, 1333, 1334, 1337, 1339, 1340, 1341, 1343, 1344, 1345, 1346, 1347, 1349, 1350, 1351, 1352, 1353, 1355, 1356, 1357, 1358, 1361, 1363, 1364, 1367, 1369, 1372, 1373, 1374, 1376, 1379, 1380, 1381, 1382, 1384, 1387, 1388, 1391, 1392, 1393, 1396, 1397, 1398, 1401, 1402, 1403, 1405, 1406, 1407, 1408, 1409, 1411, 1412, 1413, 1414, 1415, 1418, 1420, 1421, 1422, 1424, 1425, 1426, 1427, 1428, 1430, 1431, 1432, 1433, 1436, 1438, 1439, 1442, 1444, 1447, 1448, 1449, 1451, 1454, 1455, 1456, 1457, 1459, 1460, 1461, 1464, 1465, 1466, 1469, 1470, 1471, 1473, 1474, 1475, 1476, 1477, 1479, 1480, 1481, 1482, 1485, 1486, 1489, 1490, 1491, 1494, 1496, 1497, 1498, 1500, 1501, 1502, 1503, 1504, 1506, 1507, 1508, 1509, 1512, 1513, 1516, 1517, 1520, 1522, 1523, 1526, 1528, 1531, 1532, 1533, 1535, 1538, 1539, 1540, 1541, 1543, 1544, 1545, 1548, 1549, 1550, 1553, 1554, 1555, 1557, 1558, 1559, 1560, 1561, 1564, 1566, 1567, 1568, 1570, 1571, 1572, 1573, 1576, 1578, 1579, 1582, 1584, 1587, 1588, 1589, 1591, 1594, 1595, 1596, 1597, 1599, 1600, 1601, 1604, 1605, 1606, 1609, 1610, 1611, 1613, 1614, 1615, 1616, 1617, 1619, 1620, 1621, 1622, 1623, 1626, 1628, 1629, 1630, 1632, 1633, 1634, 1635, 1636, 1638, 1639, 1640, 1641, 1644, 1646, 1647, 1650, 1652, 1655, 1656, 1657, 1659, 1662, 1663, 1664, 1665, 1667, 1668, 1669, 1672, 1673, 1674, 1677, 1678, 1679, 1681, 1682, 1683, 1684, 1685, 1688, 1690, 1691, 1692, 1694, 1695, 1696, 1697, 1700, 1702, 1703, 1706, 1708, 1711, 1712, 1713, 1715, 1718, 1719, 1720, 1721, 1723, 1724, 1725, 1728, 1729, 1730, 1733, 1734, 1735, 1737, 1738, 1739, 1740, 1741, 1743, 1744, 1745, 1746, 1747, 1749, 1750, 1751, 1752, 1753, 1756, 1758, 1759, 1760, 1762, 1763, 1764, 1765, 1766, 1768, 1769, 1770, 1771, 1772, 1774, 1775, 1776, 1777, 1780, 1782, 1783, 1786, 1788, 1791, 1792, 1793, 1795, 1798, 1799, 1800, 1801, 1803, 1804, 1805, 1808, 1809, 1810, 1813, 1814, 1815, 1817, 1818, 1819, 1820, 1821, 1823, 1824, 1825, 1826, 1827, 1829, 1830, 1831, 1832, 1833, 1836, 1838, 1839, 1840, 1842, 1843, 1844, 1845, 1846, 1848, 1849, 1850, 1851, 1852, 1854, 1855, 1856, 1857, 1860, 1862, 1863, 1866, 1868, 1871, 1872, 1873, 1875, 1878, 1879, 1880, 1881, 1883, 1884, 1885, 1888, 1889, 1890, 1893, 1894, 1895, 1897, 1898, 1899, 1900, 1901, 1903, 1904, 1905, 1906, 1907, 1909, 1910, 1911, 1912, 1913, 1915, 1916, 1917, 1918, 1919, 1921, 1922, 1923, 1924, 1925, 1928, 1930, 1931, 1932, 1934, 1935, 1936, 1937, 1938, 1940, 1941, 1942, 1943, 1944, 1946, 1947, 1948, 1949, 1950, 1952, 1953, 1954, 1955, 1956, 1958, 1959, 1960, 1961, 1964, 1966, 1967, 1970, 1972, 1975, 1976, 1977, 1979, 1982, 1983, 1984, 1985, 1987, 1988, 1989, 1992, 1993, 1994, 1997, 1998, 1999, 2001, 2002, 2003, 2004, 2005, 2007, 2008, 2009, 2010, 2011, 2013, 2014, 2015, 2016, 2017, 2019, 2020, 2021, 2022, 2023, 2025, 2026, 2027, 2028, 2029, 2032, 2034, 2035, 2036, 2038, 2039, 2040, 2041, 2042, 2044, 2045, 2046, 2047, 2048, 2050, 2051, 2052, 2053, 2054, 2056, 2057, 2058, 2059, 2060, 2062, 2063, 2064, 2065, 2068, 2070, 2071, 2074, 2076, 2079, 2080, 2081, 2083, 2086, 2087, 2088, 2089, 2091, 2092, 2093, 2096, 2097, 2098, 2101, 2102, 2103, 2105, 2106, 2107, 2108, 2109, 2111, 2112, 2113, 2114, 2115, 2117, 2118, 2119, 2120, 2121, 2123, 2124, 2125, 2126, 2127, 2130, 2132, 2133, 2134, 2136, 2137, 2138, 2139, 2140, 2142, 2143, 2144, 2145, 2146, 2148, 2149, 2150, 2151, 2152, 2154, 2155, 2156, 2157, 2160, 2162, 2163, 2166, 2168, 2171, 2172, 2173, 2175, 2178, 2179, 2180, 2181, 2183, 2186, 2187, 2190, 2191, 2192, 2195, 2196, 2197, 2200, 2201, 2202, 2204, 2205, 2206, 2207, 2208, 2210, 2211, 2212, 2213, 2214, 2216, 2217, 2218, 2219, 2220, 2223, 2225, 2226, 2227, 2229, 2230, 2231, 2232, 2233, 2235, 2236, 2237, 2238, 2239, 2241, 2242, 2243, 2244, 2247, 2249, 2250, 2253, 2255, 2258, 2259, 2260, 2262, 2265, 2266, 2267, 2268, 2270, 2271, 2272, 2275, 2276, 2277, 2280, 2281, 2282, 2284, 2285, 2286, 2287, 2288, 2290, 2291, 2292, 2293, 2294, 2297, 2299, 2300, 2301, 2303, 2304, 2305, 2306, 2307, 2309, 2310, 2311, 2312, 2315, 2317, 2318, 2321, 2323, 2326, 2327, 2328, 2330, 2333, 2334, 2335, 2336, 2338, 2339, 2340, 2343, 2344, 2345, 2348, 2349, 2350, 2352, 2353, 2354, 2355, 2356, 2358, 2359, 2360, 2361, 2364, 2365, 2368, 2369, 2372, 2373, 2374, 2376, 2377, 2378, 2379, 2380, 2382, 2383, 2384, 2385, 2388, 2389, 2392, 2393, 2396, 2399, 2400, 2401, 2402, 2403, 2405, 2406, 2407, 2408, 2409, 2411, 2412, 2413, 2414, 2415, 2418, 2420, 2421, 2422, 2424, 2425, 2426, 2427, 2428, 2430, 2431, 2432, 2433, 2436, 2438, 2439, 2442, 2444, 2447, 2448, 2449, 2451, 2454, 2455, 2456, 2457, 2459, 2462, 2463, 2466, 2467, 2468, 2471, 2472, 2473, 2476, 2477, 2478, 2480, 2481, 2482, 2483, 2484, 2486, 2487, 2488, 2489, 2490, 2493, 2495, 2496, 2497, 2499, 2500, 2501, 2502, 2503, 2505, 2506, 2507, 2508, 2511, 2513, 2514, 2517, 2519, 2522, 2523, 2524, 2526, 2529, 2530, 2531, 2532, 2534, 2535, 2536, 2539, 2540, 2541, 2544, 2545, 2546, 2548, 2549, 2550, 2551, 2554, 2556, 2557, 2558, 2560, 2561, 2562, 2563, 2566, 2567, 2570, 2572, 2575, 2576, 2577, 2580, 2581, 2582, 2584, 2585, 2586, 2587, 2588, 2591, 2593, 2594, 2595, 2597, 2598, 2599, 2600, 2603, 2605, 2606, 2609, 2611, 2614, 2615, 2616, 2618, 2621, 2622, 2623, 2624, 2626, 2627, 2628, 2631, 2632, 2633, 2636, 2637, 2638, 2640, 2641, 2642, 2643, 2644, 2646, 2647, 2648, 2649, 2650, 2653, 2655, 2656, 2657, 2659, 2660, 2661, 2662, 2663, 2665, 2666, 2667, 2668, 2671, 2673, 2674, 2677, 2679, 2682, 2683, 2684, 2686, 2689, 2690, 2691, 2692, 2694, 2695, 2696, 2699, 2700, 2701, 2704, 2705, 2706, 2708, 2709, 2710, 2711, 2712, 2714, 2715, 2716, 2717, 2718, 2721, 2723, 2724, 2725, 2727, 2728, 2729, 2730, 2731, 2733, 2734, 2735, 2736, 2739, 2741, 2742, 2745, 2747, 2750, 2751, 2752, 2754, 2757, 2758, 2759, 2760, 2762, 2763, 2764, 2767, 2768, 2769, 2772, 2773, 2774, 2776, 2777, 2778, 2779, 2780, 2783, 2785, 2786, 2787, 2789, 2790, 2791, 2792, 2795, 2797, 2798, 2801, 2803, 2806, 2807, 2808, 2810, 2813, 2814, 2815, 2816, 2818, 2819, 2820, 2823, 2824, 2825, 2828, 2829, 2830, 2832, 2833, 2834, 2835, 2836, 2838, 2839, 2840, 2841, 2844, 2845, 2848, 2849, 2850, 2853, 2855, 2856, 2857, 2859, 2860, 2861, 2862, 2863, 2865, 2866, 2867, 2868, 2871, 2872, 2875, 2876, 2879, 2881, 2882, 2885, 2887, 2890, 2891, 2892, 2894, 2897, 2898, 2899, 2900, 2902, 2903, 2906, 2907, 2908, 2911, 2912, 2913, 2915, 2916, 2917, 2918, 2919, 2921, 2922, 2923, 2924, 2925, 2928, 2930, 2931, 2932, 2934, 2935, 2936, 2937, 2938, 2940, 2941, 2942, 2943, 2946, 2948, 2949, 2952, 2954, 2957, 2958, 2959, 2961, 2964, 2965, 2966, 2967, 2969, 2970, 2971, 2974, 2975, 2976, 2979, 2980, 2983, 2984, 2987, 2990, 2991, 2992, 2993, 2996, 2997, 3000, 3003, 3004, 3007, 3008, 3011, 3014, 3015, 3016, 3017, 3018, 3020, 3021, 3022, 3023, 3026, 3027, 3028, 3030, 3031, 3032, 3033, 3036, 3039, 3040, 3041, 3044, 3047, 3048, 3049]
def h_L_law : List Nat := [131, 0, 133, 0, 1531, 0, 1533, 0, 0, 494, 0, 0, 0, 0, 0, 0, 0, 0, 0, 0, 0, 0, 0, 0, 0, 0, 0, 0, 0, 0, 0, 0, 0, 0, 0, 0, 0, 0, 0, 0, 0, 0, 0, 0, 0, 0, 0, 0, 0, 0, 0, 536, 0, 0, 0, 0, 0, 0, 0, 0, 0, 0, 0, 0, 0, 0, 0, 0, 0, 0, 0, 0, 0, 0, 0, 0, 0, 0, 1631, 0, 0, 0, 0, 0, 0, 0, 0, 0, 548, 0, 0, 0, 0, 0, 0, 1635, 0, 0, 0, 0, 0, 784, 0, 0, 1643, 0, 0, 1527, 0, 0, 0, 0, 0, 0, 0, 0, 0, 0, 0, 0, 0, 0, 0, 0, 0, 552, 0, 1639, 0, 0, 0, 0, 0, 0, 0, 0, 0, 0, 0, 0, 0, 0, 0, 930, 0, 0, 0, 0, 0, 0, 0, 0, 0, 0, 0, 0, 1674, 0, 0, 1527, 0, 0, 0, 0, 0, 0, 0, 0, 0, 0, 0, 0, 0, 0, 0, 0, 0, 0, 0, 0, 0, 0, 0, 0, 0, 0, 0, 0, 959, 0, 0, 0, 0, 0, 0, 0, 0, 0, 0, 0, 0, 1685, 0, 0, 1527, 0, 0, 0, 0, 0, 0, 0, 0, 0, 0, 0, 0, 0, 0, 0, 0, 0, 0, 0, 0, 0, 0, 0, 968, 0, 0, 0, 0, 0, 0, 0, 1712, 0, 0, 1527, 0, 0, 0, 0, 0, 0, 0, 0, 0, 0, 0, 0, 0, 0, 0, 0, 0, 0, 0, 0, 0, 0, 0, 0, 0, 0, 0, 0, 0, 0, 0, 0, 0, 0, 0, 0, 0, 975, 0, 0, 0, 0, 0, 0, 0, 0, 0, 0, 0, 0, 0, 0, 0, 0, 0, 0, 0, 0, 0, 1704, 0, 0, 1527, 0, 0, 0, 0, 0, 0, 0, 0, 0, 0, 0, 0, 0, 0, 0, 0, 0, 0, 0, 0, 0, 0, 0, 983, 0, 0, 0, 0, 0, 0, 0, 1720, 0, 0, 1527, 0, 0, 0, 0, 0, 0, 0, 0, 0, 0, 0, 0, 0, 0, 0, 0, 0, 0, 0, 0, 0, 0, 0, 0, 0, 0, 0, 0, 0, 0, 0, 0, 0, 0, 0, 0, 0, 0, 0, 0, 0, 0, 0, 990, 0, 0, 0, 0, 0, 0, 0, 0, 0, 0, 0, 0, 0, 0, 0, 0, 0, 0, 0, 0, 0, 0, 0, 0, 0, 0, 0, 1735, 0, 0, 1527, 0, 0, 0, 0, 0, 0, 0, 0, 0, 0, 0, 0, 0, 0, 0, 0, 0, 0, 0, 0, 0, 0, 0, 0, 0, 0, 0, 0, 0, 0, 0, 0, 0, 0, 0, 0, 0, 0, 0, 0, 0, 0, 0, 0, 0, 0, 0, 1005, 0, 0, 0, 0, 0, 0, 0, 0, 0, 0, 0, 0, 0, 0, 0, 0, 0, 0, 0, 0, 0, 0, 0, 0, 0, 0, 0, 0, 0, 0, 0, 1746, 0, 0, 1527, 0, 0, 0, 0, 0, 0, 0, 0, 0, 0, 0, 0, 0, 0, 0, 0, 0, 0, 0, 0, 0, 0, 0, 0, 0, 0, 0, 0, 0, 0, 0, 0, 0, 0, 0, 0, 0, 0, 0, 0, 0, 0, 0, 1015, 0, 0, 0, 0, 0, 0, 0, 0, 0, 0, 0, 0, 0, 0, 0, 0, 0, 0, 0, 0, 0, 0, 0, 0, 0, 0, 0, 1757, 0, 0, 1527, 0, 0, 0, 0, 0, 0, 0, 0, 0, 0, 0, 0, 0, 0, 0, 0, 0, 0, 0, 0, 0, 0, 1031, 0, 0, 0, 0, 0, 0, 0, 1765, 0, 1527, 0, 0, 0, 0, 0, 0, 0, 0, 0, 0, 0, 0, 0, 0, 0, 0, 0, 0, 0, 0, 0, 0, 1039, 0, 0, 0, 0, 0, 0, 0, 0, 0, 0, 0, 0, 0, 0, 0, 0, 0, 1769, 0, 0, 1527, 0, 0, 0, 0, 0, 0, 0, 0, 0, 0, 0, 0, 0, 0, 0, 0, 0, 0, 0, 0, 0, 0, 0, 1067, 0, 0, 0, 0, 0, 0, 0, 1808, 0, 0, 1527, 0, 0, 0, 0, 0, 0, 0, 0, 0, 0, 0, 0, 0, 0, 0, 0, 0, 0, 0, 0, 0, 0, 0, 0, 0, 0, 0, 0, 0, 0, 0, 0, 0, 1080, 0, 0, 0, 0, 0, 0, 0, 0, 0, 0, 0, 0, 0, 0, 0, 0, 0, 1815, 0, 0, 1527, 0, 0, 0, 0, 0, 0, 0, 0, 0, 0, 0, 0, 0, 0, 0, 0, 0, 0, 0, 0, 0, 0, 0, 0, 0, 0, 0, 0, 0, 0, 0, 0, 0, 0, 0, 0, 1098, 0, 0, 0, 0, 0, 0, 0, 0, 0, 0, 0, 0, 0, 0, 0, 0, 0, 1833, 0, 0, 1527, 0, 0, 0, 0, 0, 0, 0, 0, 0, 0, 0, 0, 0, 0, 0, 0, 0, 0, 0, 0, 0, 0, 0, 0, 0, 0, 0, 0, 0, 0, 0, 1110, 0, 0, 0, 0, 0, 0, 0, 0, 0, 0, 0, 0, 1837, 0, 0, 1527, 0, 0, 0, 0, 0, 0, 0, 0, 0, 0, 0, 0, 0, 0, 0, 0, 0, 0, 0, 0, 0, 0, 0, 0, 0, 0, 0, 0, 0, 0, 0, 0, 1127, 0, 0, 0, 0, 0, 0, 0, 0, 0, 0, 0, 0, 0, 0, 0, 0, 1853, 0, 0, 1527, 0, 0, 0, 0, 0, 0, 0, 0, 0, 0, 0, 0, 0, 0, 0, 0, 0, 0, 0, 0, 0, 0, 0, 1139, 0, 0, 0, 0, 0, 0, 0, 1861, 0, 0, 1527, 0, 0, 0, 0, 0, 0, 0, 0, 0, 0, 0, 0, 0, 0, 0, 0, 0, 0, 0, 0, 0, 0, 0, 0, 0, 0, 0, 0, 1158, 0, 0, 0, 0, 0, 0, 0, 0, 0, 0, 0, 0, 1869, 0, 0, 1527, 0, 0, 0, 0, 0, 0, 0, 0, 0, 0, 0, 0, 0, 0, 0, 0, 0, 0, 0, 0, 0, 0, 0, 1170, 0, 0, 0, 0, 0, 0, 0, 1877, 0, 0, 1527, 0, 0, 0, 0, 0, 0, 0, 0, 0, 0, 0, 0, 0, 0, 0, 0, 0, 0, 0, 0, 0, 0, 0, 0, 0, 0, 0, 0, 0, 0, 0, 0, 0, 1307, 0, 0, 0, 0, 0, 0, 0, 0, 0, 0, 0, 0, 0, 0, 0, 0, 0, 1948, 0, 0, 1527, 0, 0, 0, 0, 0, 0, 0, 0, 0, 0, 0, 0, 0, 0, 0, 0, 0, 0, 0, 0, 0, 0, 0, 0, 0, 0, 0, 0, 0, 0, 0, 0, 0, 1326, 0, 0, 0, 0, 0, 0, 0, 0, 0, 0, 0, 0, 0, 0, 0, 0, 0, 1980, 0, 0, 1527, 0, 0, 0, 0, 0, 0, 0, 0, 0, 0, 0, 0, 0, 0, 0, 0, 0, 0, 0, 0, 0, 0, 0, 0, 0, 0, 0, 0, 0, 0, 0, 0, 0, 0, 0, 0, 0, 0, 0, 0, 0, 0, 0, 1333, 0, 0, 0, 0, 0, 0, 0, 0, 0, 0, 0, 0, 0, 0, 0, 0, 0, 0, 0, 0, 0, 0, 0, 0, 0, 0, 0, 2000, 0, 0, 1527, 0, 0, 0, 0, 0, 0, 0, 0, 0, 0, 0, 0, 0, 0, 0, 0, 0, 0, 0, 0, 0, 0, 0, 0, 0, 0, 0, 0, 0, 0, 0, 0, 0, 0, 0, 0, 0, 0, 0, 0, 0, 0, 0, 1359, 0, 0, 0, 0, 0, 0, 0, 0, 0, 0, 0, 0, 0, 0, 0, 0, 0, 0, 0, 0, 0, 0, 0, 0, 0, 0, 0, 2004, 0, 0, 1527, 0, 0, 0, 0, 0, 0, 0, 0, 0, 0, 0, 0, 0, 0, 0, 0, 0, 0, 0, 0, 0, 0, 0, 0, 0, 0, 0, 0, 0, 0, 0, 0, 0, 0, 0, 0, 0, 0, 1370, 0, 0, 0, 0, 0, 0, 0, 0, 0, 0, 0, 0, 0, 0, 0, 0, 0, 0, 0, 0, 0, 0, 2012, 0, 0, 1527, 0, 0, 0, 0, 0, 0, 0, 0, 0, 0, 0, 0, 0, 0, 0, 0, 0, 0, 0, 0, 0, 0, 0, 0, 0, 0, 0, 0, 0, 0, 0, 0, 0, 0, 0, 0, 1381, 0, 0, 0, 0, 0, 0, 0, 0, 0, 0, 0, 0, 0, 0, 0, 0, 0, 2024, 0, 0, 1527, 0, 0, 0, 0, 0, 0, 0, 0, 0, 0, 0, 0, 0, 0, 0, 0, 0, 0, 0, 0, 0, 0, 0, 0, 0, 0, 0, 0, 1388, 0, 0, 0, 0, 0, 0, 0, 0, 0, 0, 0, 0, 2032, 0, 0, 1527, 0, 0, 0, 0, 0, 0, 0, 0, 0, 0, 0, 0, 0, 0, 0, 0, 0, 0, 0, 0, 0, 0, 0, 0, 0, 0, 0, 0, 0, 0, 0, 556, 0, 0, 0, 0, 0, 0, 0, 0, 0, 0, 0, 0, 0, 0, 0, 2044, 0, 0, 0, 0, 0, 0, 0, 0, 0, 0, 0, 0, 0, 0, 0, 1395, 0, 0, 0, 0, 0, 0, 0, 0, 0, 0, 0, 0, 1996, 0, 0, 1527, 0, 0, 0, 0, 0, 0, 0, 0, 0, 0, 0, 0, 0, 0, 0, 0, 0, 0, 0, 0, 0, 0, 0, 0, 0, 0, 0, 0, 0, 0, 0, 1403, 0, 0, 0, 0, 0, 0, 0, 0, 0, 0, 0, 0, 1984, 0, 0, 1527, 0, 0, 0, 0, 0, 0, 0, 0, 0, 0, 0, 0, 0, 0, 0, 0, 0, 0, 0, 0, 0, 0, 1423, 0, 0, 0, 0, 0, 0, 0, 2048, 0, 1527, 0, 0, 0, 0, 0, 0, 0, 0, 0, 0, 0, 0, 1431, 0, 0, 0, 0, 0, 0, 0, 2052, 0, 0, 1527, 0, 0, 0, 0, 0, 0, 0, 0, 0, 0, 0, 0, 0, 0, 0, 0, 0, 0, 0, 0, 0, 0, 0, 0, 0, 0, 0, 0, 1469, 0, 0, 0, 0, 0, 0, 0, 0, 0, 0, 0, 0, 2076, 0, 0, 1527, 0, 0, 0, 0, 0, 0, 0, 0, 0, 0, 0, 0, 0, 0, 0, 0, 0, 0, 0, 0, 0, 0, 0, 0, 0, 0, 0, 0, 1485, 0, 0, 0, 0, 0, 0, 0, 0, 0, 0, 0, 0, 2080, 0, 0, 1527, 0, 0, 0, 0, 0, 0, 0, 0, 0, 0, 0, 0, 0, 0, 0, 0, 0, 0, 0, 0, 0, 0, 0, 1493, 0, 0, 0, 0, 0, 0, 0, 2084, 0, 0, 1527, 0, 0, 0, 0, 0, 0, 0, 0, 0, 0, 0, 0, 0, 0, 0, 0, 0, 0, 0, 0, 0, 0, 0, 0, 0, 0, 0, 0, 0, 0, 0, 0, 1500, 0, 0, 0, 0, 0, 0, 0, 0, 0, 0, 0, 0, 0, 0, 0, 0, 2088, 0, 0, 1527, 0, 0, 0, 0, 0, 0, 0, 0, 0, 0, 0, 0, 0, 0, 0, 0, 0, 0, 0, 0, 0, 0, 0, 0, 0, 0, 0, 1519, 0, 0, 0, 0, 0, 0, 0, 0, 0, 0, 0, 0, 2096, 0, 0, 1527, 0, 0, 0, 0, 0, 0, 0, 0, 0, 0, 0, 0, 0, 0, 0, 0, 0, 704, 0, 2104, 0, 0, 0, 0, 720, 0, 1623, 0, 0, 764, 0, 1627, 0, 0, 0, 0, 0, 0, 0, 0, 0, 772, 0, 0, 0, 0, 0, 0, 2108, 0, 0, 0, 0, 0, 0, 0]
def codeL : List (List aI) := [k_X0_init, k_X0_begin, k_X0_doubtful, k_X0_withPrints, k_X0_choices, k_X0_isThereOn, k_X0_wasToldOn, k_X0_copyFrom, k_X1_init, k_X1_ofLay, k_X1_ofCard, k_X1_setAge, k_X1_setTag, k_X1_isTrue, k_X2_init, k_X2_keyOfMark, k_X2_keyOfPrint, k_X2_forget, k_X2_find, k_X2_recall, k_X2_keep, k_X2_take, k_X2_tryLay, k_X2_linkMates, k_X2_pair, k_X2_countAgainst, k_X2_isBetter, k_X3_init, k_X3_copyFrom, k_X4_init, k_X4_readField, k_X4_directionBy, k_X4_settle, k_X4_turnAround, k_X4_step, k_X4_direction, k_X4_cornerOf, k_X4_findPattern, k_X4_countRidges, k_X4_ridgesBy, k_X4_findClass, k_X4_copyFrom, k_X5_init, k_X5_readRules, k_X5_readRule, k_X5_takeNumberOf, k_X5_readAny, k_X5_readAll, k_X5_readAtom, k_X5_readDeeper, k_X5_emit, k_X5_holds, k_X5_firstHolding, k_X5_decidingRule, k_X5_verdictBy, k_X5_lastNumber, k_X5_hasKind, k_X5_keptBy, k_X5_copyFrom, k_X6_init, k_X6_begin, k_X6_add, k_X6_isClear, k_X6_turnFrom, k_X6_turnedX, k_X6_turnedY, k_X6_copyFrom, k_X7_init, k_X7_textOn, k_X7_isPrint, k_X7_isMark, k_X7_isCard, k_X7_isFinger, k_X7_isInFile, k_X7_printAt, k_X7_shownClass, k_X7_countInFile, k_X7_countPrints, k_X7_countClass, k_X7_isLeft, k_X7_classOf, k_X7_readingOf, k_X7_fillReadings, k_X7_copyFrom, k_X8_init, k_X8_isFull, k_X8_open, k_X8_hasCell, k_X8_at, k_X8_put, k_X8_countOf, k_X8_copyFrom, k_X9_init, k_X9_hasRoom, k_X9_append, k_X9_failAt, k_X9_fail, k_X9_scan, k_X9_goesOn, k_X9_isLetter, k_X9_isDigit, k_X9_addToken, k_X9_wordToken, k_X9_isWordAt, k_X9_valueOf, k_X9_token, k_X9_take, k_X9_takeNumber, k_X10_init, k_X10_feed, k_X10_end, k_X10_fault, k_X10_print, k_X10_field, k_X10_turn, k_X10_pattern, k_X10_singular, k_X10_ridges, k_X10_point, k_X10_mark, k_X10_spot, k_X10_slack, k_X10_lay, k_X10_card, k_X10_finger, k_X10_doubt, k_X10_kind, k_X10_number, k_X10_drawers, k_X10_like, k_X10_sharesReading, k_X10_holds, k_X10_rules, k_X10_verdict, k_X10_why, k_X10_decidingRule, k_X10_say, k_X10_said, k_X10_gatherSayings, k_X10_proved, k_X10_isProved, k_X10_alike, k_X10_alikeFingers, k_X10_arePrintsAlike, k_X10_person, k_X10_persons, k_X10_hasSecondName, k_X10_groupPersons, k_X10_joinPersons, k_X10_tell, k_X10_kept, k_X10_desk, k_X10_days, k_X10_provedMarks, k_X10_workDesk, k_X10_compareMark, k_X10_keepHit, k_X10_strikeCards, k_X10_look, k_X10_hit, k_X10_left, k_X10_rare, k_X10_commonDivisor, k_X10_tear, k_X10_check, k_X10_firstRow, k_X10_image, k_X10_back, k_X10_count, k_X10_needPrint, k_X10_needMark, k_X10_needCard, k_X10_needFinger, k_X10_needSaying, k_X10_needPoint, k_X10_isSpan, k_X10_copy, k_X11_thrown, k_X11_throwsIf, k_X11_in, k_X11_init, k_X11_today, k_X11_image, k_X11_back, k_X11_feed, k_X11_end, k_X11_uses, k_X11_isAt, k_X11_blanks, k_X11_word, k_X11_isWord, k_X11_passes, k_X11_sign, k_X11_number, k_X11_fault, k_X11_printAt, k_X11_noPrint, k_X11_readField, k_X11_print, k_X11_field, k_X11_cellOf, k_X11_around, k_X11_turnOf, k_X11_turn, k_X11_singularOf, k_X11_singular, k_X11_patternOf, k_X11_pattern, k_X11_alongX, k_X11_alongY, k_X11_ridgesOf, k_X11_ridges, k_X11_classOfPrint, k_X11_noPoint, k_X11_adds, k_X11_point, k_X11_markAt, k_X11_noMark, k_X11_mark, k_X11_spot, k_X11_slack, k_X11_turnedX, k_X11_turnedY, k_X11_mayPair, k_X11_seeks, k_X11_pairsOf, k_X11_isBetween, k_X11_tries, k_X11_lays, k_X11_laysMark, k_X11_lay, k_X11_cardAt, k_X11_of, k_X11_noCard, k_X11_noFinger, k_X11_isFiled, k_X11_card, k_X11_comparedAt, k_X11_finger, k_X11_doubt, k_X11_ownClass, k_X11_classOf, k_X11_kind, k_X11_numberOf, k_X11_number_, k_X11_reads, k_X11_drawers, k_X11_like, k_X11_textAt, k_X11_ruleAt, k_X11_emits, k_X11_readAtom, k_X11_readAllOf, k_X11_readCond, k_X11_readRule, k_X11_readAll, k_X11_rules, k_X11_textOf, k_X11_rulesOf, k_X11_holds, k_X11_firstOf, k_X11_lastNumber, k_X11_looks, k_X11_looksAtLay, k_X11_judges, k_X11_verdict, k_X11_why, k_X11_looksAtCard, k_X11_keptOf, k_X11_kept, k_X11_tell, k_X11_say, k_X11_saidOf, k_X11_said, k_X11_isProved, k_X11_proved, k_X11_alikeOf, k_X11_alike, k_X11_isThere, k_X11_joins, k_X11_person, k_X11_persons, k_X11_desk, k_X11_isWaiting, k_X11_isSettled, k_X11_compares, k_X11_desks, k_X11_strikes, k_X11_days, k_X11_look, k_X11_hit, k_X11_left, k_X11_common, k_X11_rare, k_X11_rowAt, k_X11_tear, k_X11_check, k_X11_count, k_L_print, k_L_field, k_L_turn, k_L_pattern, k_L_singular, k_L_ridges, k_L_point, k_L_mark, k_L_spot, k_L_slack, k_L_lay, k_L_card, k_L_finger, k_L_doubt, k_L_kind, k_L_number, k_L_drawers, k_L_like, k_L_rules, k_L_verdict, k_L_why, k_L_say, k_L_said, k_L_proved, k_L_alike, k_L_person, k_L_tell, k_L_kept, k_L_desk, k_L_days, k_L_look, k_L_hit, k_L_left, k_L_rare, k_L_tear, k_J9_floorMod_7cf53, k_J9_abs_0f7a4, k_J9_max_7cf53, k_J9_min_7cf53, k_J0_length_8abf5, k_J0_coder_7d493, k_J0_charAt_5068e, k_J0_isLatin1_aae02, k_J0_checkIndex_df160, k_J1_charAt_3b067, k_J3_checkIndex_8e157, k_L_law]
def pcL : List (List Nat) := [p_X0_init, p_X0_begin, p_X0_doubtful, p_X0_withPrints, p_X0_choices, p_X0_isThereOn, p_X0_wasToldOn, p_X0_copyFrom, p_X1_init, p_X1_ofLay, p_X1_ofCard, p_X1_setAge, p_X1_setTag, p_X1_isTrue, p_X2_init, p_X2_keyOfMark, p_X2_keyOfPrint, p_X2_forget, p_X2_find, p_X2_recall, p_X2_keep, p_X2_take, p_X2_tryLay, p_X2_linkMates, p_X2_pair, p_X2_countAgainst, p_X2_isBetter, p_X3_init, p_X3_copyFrom, p_X4_init, p_X4_readField, p_X4_directionBy, p_X4_settle, p_X4_turnAround, p_X4_step, p_X4_direction, p_X4_cornerOf, p_X4_findPattern, p_X4_countRidges, p_X4_ridgesBy, p_X4_findClass, p_X4_copyFrom, p_X5_init, p_X5_readRules, p_X5_readRule, p_X5_takeNumberOf, p_X5_readAny, p_X5_readAll, p_X5_readAtom, p_X5_readDeeper, p_X5_emit, p_X5_holds, p_X5_firstHolding, p_X5_decidingRule, p_X5_verdictBy, p_X5_lastNumber, p_X5_hasKind, p_X5_keptBy, p_X5_copyFrom, p_X6_init, p_X6_begin, p_X6_add, p_X6_isClear, p_X6_turnFrom, p_X6_turnedX, p_X6_turnedY, p_X6_copyFrom, p_X7_init, p_X7_textOn, p_X7_isPrint, p_X7_isMark, p_X7_isCard, p_X7_isFinger, p_X7_isInFile, p_X7_printAt, p_X7_shownClass, p_X7_countInFile, p_X7_countPrints, p_X7_countClass, p_X7_isLeft, p_X7_classOf, p_X7_readingOf, p_X7_fillReadings, p_X7_copyFrom, p_X8_init, p_X8_isFull, p_X8_open, p_X8_hasCell, p_X8_at, p_X8_put, p_X8_countOf, p_X8_copyFrom, p_X9_init, p_X9_hasRoom, p_X9_append, p_X9_failAt, p_X9_fail, p_X9_scan, p_X9_goesOn, p_X9_isLetter, p_X9_isDigit, p_X9_addToken, p_X9_wordToken, p_X9_isWordAt, p_X9_valueOf, p_X9_token, p_X9_take, p_X9_takeNumber, p_X10_init, p_X10_feed, p_X10_end, p_X10_fault, p_X10_print, p_X10_field, p_X10_turn, p_X10_pattern, p_X10_singular, p_X10_ridges, p_X10_point, p_X10_mark, p_X10_spot, p_X10_slack, p_X10_lay, p_X10_card, p_X10_finger, p_X10_doubt, p_X10_kind, p_X10_number, p_X10_drawers, p_X10_like, p_X10_sharesReading, p_X10_holds, p_X10_rules, p_X10_verdict, p_X10_why, p_X10_decidingRule, p_X10_say, p_X10_said, p_X10_gatherSayings, p_X10_proved, p_X10_isProved, p_X10_alike, p_X10_alikeFingers, p_X10_arePrintsAlike, p_X10_person, p_X10_persons, p_X10_hasSecondName, p_X10_groupPersons, p_X10_joinPersons, p_X10_tell, p_X10_kept, p_X10_desk, p_X10_days, p_X10_provedMarks, p_X10_workDesk, p_X10_compareMark, p_X10_keepHit, p_X10_strikeCards, p_X10_look, p_X10_hit, p_X10_left, p_X10_rare, p_X10_commonDivisor, p_X10_tear, p_X10_check, p_X10_firstRow, p_X10_image, p_X10_back, p_X10_count, p_X10_needPrint, p_X10_needMark, p_X10_needCard, p_X10_needFinger, p_X10_needSaying, p_X10_needPoint, p_X10_isSpan, p_X10_copy, p_X11_thrown, p_X11_throwsIf, p_X11_in, p_X11_init, p_X11_today, p_X11_image, p_X11_back, p_X11_feed, p_X11_end, p_X11_uses, p_X11_isAt, p_X11_blanks, p_X11_word, p_X11_isWord, p_X11_passes, p_X11_sign, p_X11_number, p_X11_fault, p_X11_printAt, p_X11_noPrint, p_X11_readField, p_X11_print, p_X11_field, p_X11_cellOf, p_X11_around, p_X11_turnOf, p_X11_turn, p_X11_singularOf, p_X11_singular, p_X11_patternOf, p_X11_pattern, p_X11_alongX, p_X11_alongY, p_X11_ridgesOf, p_X11_ridges, p_X11_classOfPrint, p_X11_noPoint, p_X11_adds, p_X11_point, p_X11_markAt, p_X11_noMark, p_X11_mark, p_X11_spot, p_X11_slack, p_X11_turnedX, p_X11_turnedY, p_X11_mayPair, p_X11_seeks, p_X11_pairsOf, p_X11_isBetween, p_X11_tries, p_X11_lays, p_X11_laysMark, p_X11_lay, p_X11_cardAt, p_X11_of, p_X11_noCard, p_X11_noFinger, p_X11_isFiled, p_X11_card, p_X11_comparedAt, p_X11_finger, p_X11_doubt, p_X11_ownClass, p_X11_classOf, p_X11_kind, p_X11_numberOf, p_X11_number_, p_X11_reads, p_X11_drawers, p_X11_like, p_X11_textAt, p_X11_ruleAt, p_X11_emits, p_X11_readAtom, p_X11_readAllOf, p_X11_readCond, p_X11_readRule, p_X11_readAll, p_X11_rules, p_X11_textOf, p_X11_rulesOf, p_X11_holds, p_X11_firstOf, p_X11_lastNumber, p_X11_looks, p_X11_looksAtLay, p_X11_judges, p_X11_verdict, p_X11_why, p_X11_looksAtCard, p_X11_keptOf, p_X11_kept, p_X11_tell, p_X11_say, p_X11_saidOf, p_X11_said, p_X11_isProved, p_X11_proved, p_X11_alikeOf, p_X11_alike, p_X11_isThere, p_X11_joins, p_X11_person, p_X11_persons, p_X11_desk, p_X11_isWaiting, p_X11_isSettled, p_X11_compares, p_X11_desks, p_X11_strikes, p_X11_days, p_X11_look, p_X11_hit, p_X11_left, p_X11_common, p_X11_rare, p_X11_rowAt, p_X11_tear, p_X11_check, p_X11_count, p_L_print, p_L_field, p_L_turn, p_L_pattern, p_L_singular, p_L_ridges, p_L_point, p_L_mark, p_L_spot, p_L_slack, p_L_lay, p_L_card, p_L_finger, p_L_doubt, p_L_kind, p_L_number, p_L_drawers, p_L_like, p_L_rules, p_L_verdict, p_L_why, p_L_say, p_L_said, p_L_proved, p_L_alike, p_L_person, p_L_tell, p_L_kept, p_L_desk, p_L_days, p_L_look, p_L_hit, p_L_left, p_L_rare, p_L_tear, p_J9_floorMod_7cf53, p_J9_abs_0f7a4, p_J9_max_7cf53, p_J9_min_7cf53, p_J0_length_8abf5, p_J0_coder_7d493, p_J0_charAt_5068e, p_J0_isLatin1_aae02, p_J0_checkIndex_df160, p_J1_charAt_3b067, p_J3_checkIndex_8e157, p_L_law]
def hL : List (List Nat) := [h_X0_init, h_X0_begin, h_X0_doubtful, h_X0_withPrints, h_X0_choices, h_X0_isThereOn, h_X0_wasToldOn, h_X0_copyFrom, h_X1_init, h_X1_ofLay, h_X1_ofCard, h_X1_setAge, h_X1_setTag, h_X1_isTrue, h_X2_init, h_X2_keyOfMark, h_X2_keyOfPrint, h_X2_forget, h_X2_find, h_X2_recall, h_X2_keep, h_X2_take, h_X2_tryLay, h_X2_linkMates, h_X2_pair, h_X2_countAgainst, h_X2_isBetter, h_X3_init, h_X3_copyFrom, h_X4_init, h_X4_readField, h_X4_directionBy, h_X4_settle, h_X4_turnAround, h_X4_step, h_X4_direction, h_X4_cornerOf, h_X4_findPattern, h_X4_countRidges, h_X4_ridgesBy, h_X4_findClass, h_X4_copyFrom, h_X5_init, h_X5_readRules, h_X5_readRule, h_X5_takeNumberOf, h_X5_readAny, h_X5_readAll, h_X5_readAtom, h_X5_readDeeper, h_X5_emit, h_X5_holds, h_X5_firstHolding, h_X5_decidingRule, h_X5_verdictBy, h_X5_lastNumber, h_X5_hasKind, h_X5_keptBy, h_X5_copyFrom, h_X6_init, h_X6_begin, h_X6_add, h_X6_isClear, h_X6_turnFrom, h_X6_turnedX, h_X6_turnedY, h_X6_copyFrom, h_X7_init, h_X7_textOn, h_X7_isPrint, h_X7_isMark, h_X7_isCard, h_X7_isFinger, h_X7_isInFile, h_X7_printAt, h_X7_shownClass, h_X7_countInFile, h_X7_countPrints, h_X7_countClass, h_X7_isLeft, h_X7_classOf, h_X7_readingOf, h_X7_fillReadings, h_X7_copyFrom, h_X8_init, h_X8_isFull, h_X8_open, h_X8_hasCell, h_X8_at, h_X8_put, h_X8_countOf, h_X8_copyFrom, h_X9_init, h_X9_hasRoom, h_X9_append, h_X9_failAt, h_X9_fail, h_X9_scan, h_X9_goesOn, h_X9_isLetter, h_X9_isDigit, h_X9_addToken, h_X9_wordToken, h_X9_isWordAt, h_X9_valueOf, h_X9_token, h_X9_take, h_X9_takeNumber, h_X10_init, h_X10_feed, h_X10_end, h_X10_fault, h_X10_print, h_X10_field, h_X10_turn, h_X10_pattern, h_X10_singular, h_X10_ridges, h_X10_point, h_X10_mark, h_X10_spot, h_X10_slack, h_X10_lay, h_X10_card, h_X10_finger, h_X10_doubt, h_X10_kind, h_X10_number, h_X10_drawers, h_X10_like, h_X10_sharesReading, h_X10_holds, h_X10_rules, h_X10_verdict, h_X10_why, h_X10_decidingRule, h_X10_say, h_X10_said, h_X10_gatherSayings, h_X10_proved, h_X10_isProved, h_X10_alike, h_X10_alikeFingers, h_X10_arePrintsAlike, h_X10_person, h_X10_persons, h_X10_hasSecondName, h_X10_groupPersons, h_X10_joinPersons, h_X10_tell, h_X10_kept, h_X10_desk, h_X10_days, h_X10_provedMarks, h_X10_workDesk, h_X10_compareMark, h_X10_keepHit, h_X10_strikeCards, h_X10_look, h_X10_hit, h_X10_left, h_X10_rare, h_X10_commonDivisor, h_X10_tear, h_X10_check, h_X10_firstRow, h_X10_image, h_X10_back, h_X10_count, h_X10_needPrint, h_X10_needMark, h_X10_needCard, h_X10_needFinger, h_X10_needSaying, h_X10_needPoint, h_X10_isSpan, h_X10_copy, h_X11_thrown, h_X11_throwsIf, h_X11_in, h_X11_init, h_X11_today, h_X11_image, h_X11_back, h_X11_feed, h_X11_end, h_X11_uses, h_X11_isAt, h_X11_blanks, h_X11_word, h_X11_isWord, h_X11_passes, h_X11_sign, h_X11_number, h_X11_fault, h_X11_printAt, h_X11_noPrint, h_X11_readField, h_X11_print, h_X11_field, h_X11_cellOf, h_X11_around, h_X11_turnOf, h_X11_turn, h_X11_singularOf, h_X11_singular, h_X11_patternOf, h_X11_pattern, h_X11_alongX, h_X11_alongY, h_X11_ridgesOf, h_X11_ridges, h_X11_classOfPrint, h_X11_noPoint, h_X11_adds, h_X11_point, h_X11_markAt, h_X11_noMark, h_X11_mark, h_X11_spot, h_X11_slack, h_X11_turnedX, h_X11_turnedY, h_X11_mayPair, h_X11_seeks, h_X11_pairsOf, h_X11_isBetween, h_X11_tries, h_X11_lays, h_X11_laysMark, h_X11_lay, h_X11_cardAt, h_X11_of, h_X11_noCard, h_X11_noFinger, h_X11_isFiled, h_X11_card, h_X11_comparedAt, h_X11_finger, h_X11_doubt, h_X11_ownClass, h_X11_classOf, h_X11_kind, h_X11_numberOf, h_X11_number_, h_X11_reads, h_X11_drawers, h_X11_like, h_X11_textAt, h_X11_ruleAt, h_X11_emits, h_X11_readAtom, h_X11_readAllOf, h_X11_readCond, h_X11_readRule, h_X11_readAll, h_X11_rules, h_X11_textOf, h_X11_rulesOf, h_X11_holds, h_X11_firstOf, h_X11_lastNumber, h_X11_looks, h_X11_looksAtLay, h_X11_judges, h_X11_verdict, h_X11_why, h_X11_looksAtCard, h_X11_keptOf, h_X11_kept, h_X11_tell, h_X11_say, h_X11_saidOf, h_X11_said, h_X11_isProved, h_X11_proved, h_X11_alikeOf, h_X11_alike, h_X11_isThere, h_X11_joins, h_X11_person, h_X11_persons, h_X11_desk, h_X11_isWaiting, h_X11_isSettled, h_X11_compares, h_X11_desks, h_X11_strikes, h_X11_days, h_X11_look, h_X11_hit, h_X11_left, h_X11_common, h_X11_rare, h_X11_rowAt, h_X11_tear, h_X11_check, h_X11_count, h_L_print, h_L_field, h_L_turn, h_L_pattern, h_L_singular, h_L_ridges, h_L_point, h_L_mark, h_L_spot, h_L_slack, h_L_lay, h_L_card, h_L_finger, h_L_doubt, h_L_kind, h_L_number, h_L_drawers, h_L_like, h_L_rules, h_L_verdict, h_L_why, h_L_say, h_L_said, h_L_proved, h_L_alike, h_L_person, h_L_tell, h_L_kept, h_L_desk, h_L_days, h_L_look, h_L_hit, h_L_left, h_L_rare, h_L_tear, h_J9_floorMod_7cf53, h_J9_abs_0f7a4, h_J9_max_7cf53, h_J9_min_7cf53, h_J0_length_8abf5, h_J0_coder_7d493, h_J0_charAt_5068e, h_J0_isLatin1_aae02, h_J0_checkIndex_df160, h_J1_charAt_3b067, h_J3_checkIndex_8e157, h_L_law]
def yL : List MethodName := [yX0_init, yX0_begin, yX0_doubtful, yX0_withPrints, yX0_choices, yX0_isThereOn, yX0_wasToldOn, yX0_copyFrom, yX1_init, yX1_ofLay, yX1_ofCard, yX1_setAge, yX1_setTag, yX1_isTrue, yX2_init, yX2_keyOfMark, yX2_keyOfPrint, yX2_forget, yX2_find, yX2_recall, yX2_keep, yX2_take, yX2_tryLay, yX2_linkMates, yX2_pair, yX2_countAgainst, yX2_isBetter, yX3_init, yX3_copyFrom, yX4_init, yX4_readField, yX4_directionBy, yX4_settle, yX4_turnAround, yX4_step, yX4_direction, yX4_cornerOf, yX4_findPattern, yX4_countRidges, yX4_ridgesBy, yX4_findClass, yX4_copyFrom, yX5_init, yX5_readRules, yX5_readRule, yX5_takeNumberOf, yX5_readAny, yX5_readAll, yX5_readAtom, yX5_readDeeper, yX5_emit, yX5_holds, yX5_firstHolding, yX5_decidingRule, yX5_verdictBy, yX5_lastNumber, yX5_hasKind, yX5_keptBy, yX5_copyFrom, yX6_init, yX6_begin, yX6_add, yX6_isClear, yX6_turnFrom, yX6_turnedX, yX6_turnedY, yX6_copyFrom, yX7_init, yX7_textOn, yX7_isPrint, yX7_isMark, yX7_isCard, yX7_isFinger, yX7_isInFile, yX7_printAt, yX7_shownClass, yX7_countInFile, yX7_countPrints, yX7_countClass, yX7_isLeft, yX7_classOf, yX7_readingOf, yX7_fillReadings, yX7_copyFrom, yX8_init, yX8_isFull, yX8_open, yX8_hasCell, yX8_at, yX8_put, yX8_countOf, yX8_copyFrom, yX9_init, yX9_hasRoom, yX9_append, yX9_failAt, yX9_fail, yX9_scan, yX9_goesOn, yX9_isLetter, yX9_isDigit, yX9_addToken, yX9_wordToken, yX9_isWordAt, yX9_valueOf, yX9_token, yX9_take, yX9_takeNumber, yX10_init, yX10_feed, yX10_end, yX10_fault, yX10_print, yX10_field, yX10_turn, yX10_pattern, yX10_singular, yX10_ridges, yX10_point, yX10_mark, yX10_spot, yX10_slack, yX10_lay, yX10_card, yX10_finger, yX10_doubt, yX10_kind, yX10_number, yX10_drawers, yX10_like, yX10_sharesReading, yX10_holds, yX10_rules, yX10_verdict, yX10_why, yX10_decidingRule, yX10_say, yX10_said, yX10_gatherSayings, yX10_proved, yX10_isProved, yX10_alike, yX10_alikeFingers, yX10_arePrintsAlike, yX10_person, yX10_persons, yX10_hasSecondName, yX10_groupPersons, yX10_joinPersons, yX10_tell, yX10_kept, yX10_desk, yX10_days, yX10_provedMarks, yX10_workDesk, yX10_compareMark, yX10_keepHit, yX10_strikeCards, yX10_look, yX10_hit, yX10_left, yX10_rare, yX10_commonDivisor, yX10_tear, yX10_check, yX10_firstRow, yX10_image, yX10_back, yX10_count, yX10_needPrint, yX10_needMark, yX10_needCard, yX10_needFinger, yX10_needSaying, yX10_needPoint, yX10_isSpan, yX10_copy, yX11_thrown, yX11_throwsIf, yX11_in, yX11_init, yX11_today, yX11_image, yX11_back, yX11_feed, yX11_end, yX11_uses, yX11_isAt, yX11_blanks, yX11_word, yX11_isWord, yX11_passes, yX11_sign, yX11_number, yX11_fault, yX11_printAt, yX11_noPrint, yX11_readField, yX11_print, yX11_field, yX11_cellOf, yX11_around, yX11_turnOf, yX11_turn, yX11_singularOf, yX11_singular, yX11_patternOf, yX11_pattern, yX11_alongX, yX11_alongY, yX11_ridgesOf, yX11_ridges, yX11_classOfPrint, yX11_noPoint, yX11_adds, yX11_point, yX11_markAt, yX11_noMark, yX11_mark, yX11_spot, yX11_slack, yX11_turnedX, yX11_turnedY, yX11_mayPair, yX11_seeks, yX11_pairsOf, yX11_isBetween, yX11_tries, yX11_lays, yX11_laysMark, yX11_lay, yX11_cardAt, yX11_of, yX11_noCard, yX11_noFinger, yX11_isFiled, yX11_card, yX11_comparedAt, yX11_finger, yX11_doubt, yX11_ownClass, yX11_classOf, yX11_kind, yX11_numberOf, yX11_number_, yX11_reads, yX11_drawers, yX11_like, yX11_textAt, yX11_ruleAt, yX11_emits, yX11_readAtom, yX11_readAllOf, yX11_readCond, yX11_readRule, yX11_readAll, yX11_rules, yX11_textOf, yX11_rulesOf, yX11_holds, yX11_firstOf, yX11_lastNumber, yX11_looks, yX11_looksAtLay, yX11_judges, yX11_verdict, yX11_why, yX11_looksAtCard, yX11_keptOf, yX11_kept, yX11_tell, yX11_say, yX11_saidOf, yX11_said, yX11_isProved, yX11_proved, yX11_alikeOf, yX11_alike, yX11_isThere, yX11_joins, yX11_person, yX11_persons, yX11_desk, yX11_isWaiting, yX11_isSettled, yX11_compares, yX11_desks, yX11_strikes, yX11_days, yX11_look, yX11_hit, yX11_left, yX11_common, yX11_rare, yX11_rowAt, yX11_tear, yX11_check, yX11_count, yL_print, yL_field, yL_turn, yL_pattern, yL_singular, yL_ridges, yL_point, yL_mark, yL_spot, yL_slack, yL_lay, yL_card, yL_finger, yL_doubt, yL_kind, yL_number, yL_drawers, yL_like, yL_rules, yL_verdict, yL_why, yL_say, yL_said, yL_proved, yL_alike, yL_person, yL_tell, yL_kept, yL_desk, yL_days, yL_look, yL_hit, yL_left, yL_rare, yL_tear, yJ9_floorMod_7cf53, yJ9_abs_0f7a4, yJ9_max_7cf53, yJ9_min_7cf53, yJ0_length_8abf5, yJ0_coder_7d493, yJ0_charAt_5068e, yJ0_isLatin1_aae02, yJ0_checkIndex_df160, yJ1_charAt_3b067, yJ3_checkIndex_8e157, yL_law]
def bytL : List ByteArray := [cX0_init, cX0_begin, cX0_doubtful, cX0_withPrints, cX0_choices, cX0_isThereOn, cX0_wasToldOn, cX0_copyFrom, cX1_init, cX1_ofLay, cX1_ofCard, cX1_setAge, cX1_setTag, cX1_isTrue, cX2_init, cX2_keyOfMark, cX2_keyOfPrint, cX2_forget, cX2_find, cX2_recall, cX2_keep, cX2_take, cX2_tryLay, cX2_linkMates, cX2_pair, cX2_countAgainst, cX2_isBetter, cX3_init, cX3_copyFrom, cX4_init, cX4_readField, cX4_directionBy, cX4_settle, cX4_turnAround, cX4_step, cX4_direction, cX4_cornerOf, cX4_findPattern, cX4_countRidges, cX4_ridgesBy, cX4_findClass, cX4_copyFrom, cX5_init, cX5_readRules, cX5_readRule, cX5_takeNumberOf, cX5_readAny, cX5_readAll, cX5_readAtom, cX5_readDeeper, cX5_emit, cX5_holds, cX5_firstHolding, cX5_decidingRule, cX5_verdictBy, cX5_lastNumber, cX5_hasKind, cX5_keptBy, cX5_copyFrom, cX6_init, cX6_begin, cX6_add, cX6_isClear, cX6_turnFrom, cX6_turnedX, cX6_turnedY, cX6_copyFrom, cX7_init, cX7_textOn, cX7_isPrint, cX7_isMark, cX7_isCard, cX7_isFinger, cX7_isInFile, cX7_printAt, cX7_shownClass, cX7_countInFile, cX7_countPrints, cX7_countClass, cX7_isLeft, cX7_classOf, cX7_readingOf, cX7_fillReadings, cX7_copyFrom, cX8_init, cX8_isFull, cX8_open, cX8_hasCell, cX8_at, cX8_put, cX8_countOf, cX8_copyFrom, cX9_init, cX9_hasRoom, cX9_append, cX9_failAt, cX9_fail, cX9_scan, cX9_goesOn, cX9_isLetter, cX9_isDigit, cX9_addToken, cX9_wordToken, cX9_isWordAt, cX9_valueOf, cX9_token, cX9_take, cX9_takeNumber, cX10_init, cX10_feed, cX10_end, cX10_fault, cX10_print, cX10_field, cX10_turn, cX10_pattern, cX10_singular, cX10_ridges, cX10_point, cX10_mark, cX10_spot, cX10_slack, cX10_lay, cX10_card, cX10_finger, cX10_doubt, cX10_kind, cX10_number, cX10_drawers, cX10_like, cX10_sharesReading, cX10_holds, cX10_rules, cX10_verdict, cX10_why, cX10_decidingRule, cX10_say, cX10_said, cX10_gatherSayings, cX10_proved, cX10_isProved, cX10_alike, cX10_alikeFingers, cX10_arePrintsAlike, cX10_person, cX10_persons, cX10_hasSecondName, cX10_groupPersons, cX10_joinPersons, cX10_tell, cX10_kept, cX10_desk, cX10_days, cX10_provedMarks, cX10_workDesk, cX10_compareMark, cX10_keepHit, cX10_strikeCards, cX10_look, cX10_hit, cX10_left, cX10_rare, cX10_commonDivisor, cX10_tear, cX10_check, cX10_firstRow, cX10_image, cX10_back, cX10_count, cX10_needPrint, cX10_needMark, cX10_needCard, cX10_needFinger, cX10_needSaying, cX10_needPoint, cX10_isSpan, cX10_copy, cX11_thrown, cX11_throwsIf, cX11_in, cX11_init, cX11_today, cX11_image, cX11_back, cX11_feed, cX11_end, cX11_uses, cX11_isAt, cX11_blanks, cX11_word, cX11_isWord, cX11_passes, cX11_sign, cX11_number, cX11_fault, cX11_printAt, cX11_noPrint, cX11_readField, cX11_print, cX11_field, cX11_cellOf, cX11_around, cX11_turnOf, cX11_turn, cX11_singularOf, cX11_singular, cX11_patternOf, cX11_pattern, cX11_alongX, cX11_alongY, cX11_ridgesOf, cX11_ridges, cX11_classOfPrint, cX11_noPoint, cX11_adds, cX11_point, cX11_markAt, cX11_noMark, cX11_mark, cX11_spot, cX11_slack, cX11_turnedX, cX11_turnedY, cX11_mayPair, cX11_seeks, cX11_pairsOf, cX11_isBetween, cX11_tries, cX11_lays, cX11_laysMark, cX11_lay, cX11_cardAt, cX11_of, cX11_noCard, cX11_noFinger, cX11_isFiled, cX11_card, cX11_comparedAt, cX11_finger, cX11_doubt, cX11_ownClass, cX11_classOf, cX11_kind, cX11_numberOf, cX11_number_, cX11_reads, cX11_drawers, cX11_like, cX11_textAt, cX11_ruleAt, cX11_emits, cX11_readAtom, cX11_readAllOf, cX11_readCond, cX11_readRule, cX11_readAll, cX11_rules, cX11_textOf, cX11_rulesOf, cX11_holds, cX11_firstOf, cX11_lastNumber, cX11_looks, cX11_looksAtLay, cX11_judges, cX11_verdict, cX11_why, cX11_looksAtCard, cX11_keptOf, cX11_kept, cX11_tell, cX11_say, cX11_saidOf, cX11_said, cX11_isProved, cX11_proved, cX11_alikeOf, cX11_alike, cX11_isThere, cX11_joins, cX11_person, cX11_persons, cX11_desk, cX11_isWaiting, cX11_isSettled, cX11_compares, cX11_desks, cX11_strikes, cX11_days, cX11_look, cX11_hit, cX11_left, cX11_common, cX11_rare, cX11_rowAt, cX11_tear, cX11_check, cX11_count, cL_print, cL_field, cL_turn, cL_pattern, cL_singular, cL_ridges, cL_point, cL_mark, cL_spot, cL_slack, cL_lay, cL_card, cL_finger, cL_doubt, cL_kind, cL_number, cL_drawers, cL_like, cL_rules, cL_verdict, cL_why, cL_say, cL_said, cL_proved, cL_alike, cL_person, cL_tell, cL_kept, cL_desk, cL_days, cL_look, cL_hit, cL_left, cL_rare, cL_tear, cJ9_floorMod_7cf53, cJ9_abs_0f7a4, cJ9_max_7cf53, cJ9_min_7cf53, cJ0_length_8abf5, cJ0_coder_7d493, cJ0_charAt_5068e, cJ0_isLatin1_aae02, cJ0_checkIndex_df160, cJ1_charAt_3b067, cJ3_checkIndex_8e157, cL_law]
def infoL : List aInfo := [(4, 33, none, []), (0, 0, none, []), (0, 0, (some .int), []), (0, 0, (some .int), []), (0, 0, (some .int), []), (0, 0, (some .boolean), []), (0, 0, (some .boolean), []), (0, 0, none, []), (1, 5, none, []), (0, 0, none, []), (0, 0, none, []), (0, 0, none, []), (0, 0, none, []), (0, 0, (some .boolean), []), (8, 28857, none, []), (0, 0, (some .int), []), (0, 0, (some .int), []), (0, 0, none, []), (0, 0, none, []), (0, 0, none, []), (0, 0, none, []), (0, 0, none, []), (0, 0, none, []), (0, 0, (some .int), []), (0, 0, (some .boolean), []), (0, 0, (some .int), []), (0, 0, (some .boolean), []), (5, 41, none, []), (0, 0, none, []), (6, 105, none, []), (0, 0, (some .boolean), []), (0, 0, (some .int), []), (0, 0, none, []), (0, 0, (some .int), []), (0, 0, (some .int), []), (0, 0, (some .int), []), (0, 0, (some .int), []), (0, 0, (some .int), []), (0, 0, (some .int), []), (0, 0, (some .int), []), (0, 0, (some .int), []), (0, 0, none, []), (5, 448, none, []), (0, 0, (some .boolean), []), (0, 0, (some .boolean), []), (0, 0, (some .int), []), (0, 0, (some .boolean), []), (0, 0, (some .boolean), []), (0, 0, (some .boolean), []), (0, 0, (some .boolean), []), (0, 0, (some .boolean), []), (0, 0, (some .boolean), []), (0, 0, (some .int), []), (0, 0, (some .int), []), (0, 0, (some .int), []), (0, 0, (some .int), []), (0, 0, (some .boolean), []), (0, 0, (some .int), []), (0, 0, none, []), (4, 32, none, []), (0, 0, none, []), (0, 0, (some .int), []), (0, 0, (some .boolean), []), (0, 0, none, []), (0, 0, (some .int), []), (0, 0, (some .int), []), (0, 0, none, []), (694, 16050, none, []), (0, 0, (some (.object "RidgeBureau$RuleText")), []), (0, 0, (some .boolean), []), (0, 0, (some .boolean), []), (0, 0, (some .boolean), []), (0, 0, (some .boolean), []), (0, 0, (some .boolean), []), (0, 0, (some .int), []), (0, 0, (some .int), []), (0, 0, (some .int), []), (0, 0, (some .int), []), (0, 0, (some .int), []), (0, 0, (some .boolean), []), (0, 0, (some .int), []), (0, 0, (some .int), []), (0, 0, (some .int), []), (0, 0, none, []), (1, 1400, none, []), (0, 0, (some .boolean), []), (0, 0, (some .int), []), (0, 0, (some .boolean), []), (0, 0, (some .int), []), (0, 0, none, []), (0, 0, (some .int), []), (0, 0, none, []), (4, 1600, none, []), (0, 0, (some .boolean), []), (0, 0, none, []), (0, 0, (some .boolean), []), (0, 0, (some .boolean), []), (0, 0, none, []), (0, 0, (some .boolean), []), (0, 0, (some .boolean), []), (0, 0, (some .boolean), []), (0, 0, none, []), (0, 0, (some .int), []), (0, 0, (some .boolean), []), (0, 0, (some .int), []), (0, 0, (some .int), []), (0, 0, (some .boolean), []), (0, 0, (some .int), []), (1423, 63234, none, []), (0, 0, (some .int), []), (0, 0, (some .boolean), []), (0, 0, (some .int), []), (1, 6, (some .int), []), (2, 12, (some .int), []), (2, 12, (some .int), []), (1, 6, (some .int), []), (1, 6, (some .int), []), (1, 6, (some .int), []), (2, 12, (some .int), []), (1, 6, (some .int), []), (2, 12, (some .int), []), (1, 6, none, []), (3, 18, (some .int), []), (1, 6, (some .int), []), (3, 18, (some .boolean), []), (3, 18, (some .boolean), []), (2, 12, (some .int), []), (1, 6, (some .int), []), (1, 6, (some .int), []), (1, 6, (some .int), []), (0, 0, (some .boolean), []), (0, 0, (some .boolean), []), (1, 6, (some .int), []), (2, 12, (some .int), []), (2, 12, (some .int), []), (0, 0, (some .int), []), (5, 30, (some .int), []), (4, 24, (some .int), []), (0, 0, none, []), (3, 18, (some .boolean), []), (0, 0, (some .boolean), []), (2, 12, (some .int), []), (0, 0, (some .int), []), (0, 0, (some .boolean), []), (1, 6, (some .int), []), (0, 0, (some .int), []), (0, 0, (some .boolean), []), (0, 0, none, []), (0, 0, none, []), (2, 12, (some .boolean), []), (1, 6, (some .int), []), (1, 6, none, []), (1, 6, (some .int), []), (0, 0, (some .int), []), (0, 0, none, []), (0, 0, (some .int), []), (0, 0, none, []), (0, 0, none, []), (2, 12, (some .int), []), (1, 6, (some .int), []), (1, 6, (some .int), []), (1, 6, (some .long), []), (0, 0, (some .long), []), (1, 6, (some .int), []), (0, 0, (some .int), []), (0, 0, (some .int), []), (0, 0, none, []), (0, 0, (some .boolean), []), (0, 0, (some .int), []), (1, 6, none, []), (1, 6, none, []), (1, 6, none, []), (1, 6, none, []), (4, 24, none, []), (1, 6, none, []), (0, 0, (some .boolean), []), (0, 0, none, []), (0, 0, (some .int), []), (0, 0, (some .boolean), []), (0, 0, (some .boolean), []), (13, 44444, none, []), (0, 0, (some .int), []), (0, 0, none, []), (0, 0, (some .boolean), []), (0, 0, (some .int), []), (0, 0, (some .boolean), []), (0, 0, none, []), (0, 0, (some .boolean), []), (0, 0, none, []), (0, 0, none, []), (0, 0, (some .boolean), []), (0, 0, (some .boolean), []), (0, 0, (some .boolean), []), (0, 0, (some .int), []), (0, 0, (some .int), []), (0, 0, (some .int), []), (0, 0, (some .boolean), []), (0, 0, (some .boolean), []), (0, 0, (some .int), []), (0, 0, (some .int), []), (0, 0, (some .int), []), (0, 0, (some .int), []), (0, 0, (some .int), []), (0, 0, (some .int), []), (0, 0, (some .int), []), (0, 0, (some .int), []), (0, 0, (some .int), []), (0, 0, (some .int), []), (0, 0, (some .int), []), (0, 0, (some .int), []), (0, 0, (some .int), []), (0, 0, (some .int), []), (0, 0, (some .int), []), (0, 0, (some .boolean), []), (0, 0, (some .int), []), (0, 0, (some .int), []), (0, 0, (some .int), []), (0, 0, (some .boolean), []), (0, 0, (some .int), []), (0, 0, (some .int), []), (0, 0, none, []), (0, 0, (some .int), []), (0, 0, (some .int), []), (0, 0, (some .boolean), []), (0, 0, (some .boolean), []), (0, 0, (some .int), []), (0, 0, (some .boolean), []), (0, 0, none, []), (0, 0, none, []), (0, 0, none, []), (0, 0, (some .int), []), (0, 0, (some .int), []), (0, 0, (some .int), []), (0, 0, (some .boolean), []), (0, 0, (some .boolean), []), (0, 0, (some .boolean), []), (0, 0, (some .int), []), (0, 0, (some .int), []), (0, 0, (some .boolean), []), (0, 0, (some .boolean), []), (0, 0, (some .int), []), (0, 0, (some .int), []), (0, 0, (some .int), []), (0, 0, (some .int), []), (0, 0, (some .int), []), (0, 0, (some .int), []), (0, 0, (some .int), []), (0, 0, (some .int), []), (0, 0, (some .int), []), (0, 0, (some .int), []), (0, 0, none, []), (0, 0, (some .boolean), []), (0, 0, (some .boolean), []), (0, 0, (some .boolean), []), (0, 0, (some .boolean), []), (0, 0, (some .int), []), (0, 0, (some .int), []), (0, 0, (some .int), []), (0, 0, (some .int), []), (0, 0, (some .boolean), []), (0, 0, (some .int), []), (0, 0, (some .int), []), (0, 0, none, []), (0, 0, none, []), (0, 0, (some .int), []), (0, 0, (some .int), []), (0, 0, (some .int), []), (0, 0, none, []), (0, 0, (some .int), []), (0, 0, (some .int), []), (0, 0, (some .boolean), []), (0, 0, (some .int), []), (0, 0, (some .int), []), (0, 0, (some .int), []), (0, 0, (some .boolean), []), (0, 0, (some .boolean), []), (0, 0, (some .int), []), (0, 0, (some .int), []), (0, 0, (some .boolean), []), (0, 0, none, []), (0, 0, (some .int), []), (0, 0, (some .int), []), (0, 0, none, []), (0, 0, (some .boolean), []), (0, 0, (some .boolean), []), (0, 0, none, []), (0, 0, none, []), (0, 0, none, []), (0, 0, (some .int), []), (0, 0, (some .int), []), (0, 0, (some .int), []), (0, 0, (some .int), []), (0, 0, (some .long), []), (0, 0, (some .long), []), (0, 0, (some .int), []), (0, 0, (some .int), []), (0, 0, (some .int), []), (0, 0, (some .int), []), (1, 6, (some .int), [(0, 6, 7, "java/lang/IllegalArgumentException"), (0, 6, 10, "java/lang/UnsupportedOperationException")]), (2, 12, (some .int), [(0, 8, 9, "java/lang/IndexOutOfBoundsException")]), (2, 12, (some .int), [(0, 8, 9, "java/lang/IndexOutOfBoundsException")]), (1, 6, (some .int), [(0, 7, 8, "java/lang/IndexOutOfBoundsException")]), (1, 6, (some .int), [(0, 9, 10, "java/lang/IndexOutOfBoundsException")]), (1, 6, (some .int), [(0, 7, 8, "java/lang/IndexOutOfBoundsException")]), (2, 12, (some .int), [(0, 11, 12, "java/lang/IndexOutOfBoundsException"), (0, 11, 15, "java/lang/IllegalArgumentException")]), (1, 6, (some .int), [(0, 11, 12, "java/lang/IllegalArgumentException"), (0, 11, 15, "java/lang/UnsupportedOperationException")]), (2, 12, (some .int), [(0, 11, 12, "java/lang/IndexOutOfBoundsException"), (0, 11, 15, "java/lang/IllegalArgumentException")]), (1, 6, (some .int), [(0, 3, 4, "java/lang/IllegalArgumentException")]), (3, 18, (some .int), [(0, 9, 10, "java/lang/IndexOutOfBoundsException"), (0, 9, 13, "java/util/NoSuchElementException")]), (1, 6, (some .int), [(0, 7, 8, "java/lang/IllegalArgumentException"), (0, 7, 11, "java/lang/UnsupportedOperationException")]), (3, 18, (some .int), [(0, 12, 13, "java/lang/IndexOutOfBoundsException")]), (3, 18, (some .int), [(0, 12, 13, "java/lang/IndexOutOfBoundsException"), (0, 12, 16, "java/lang/IllegalArgumentException")]), (2, 12, (some .int), [(0, 8, 9, "java/lang/IndexOutOfBoundsException")]), (1, 6, (some .int), [(0, 8, 9, "java/lang/IndexOutOfBoundsException")]), (1, 6, (some .int), [(0, 7, 8, "java/lang/IndexOutOfBoundsException")]), (1, 6, (some .int), [(0, 8, 9, "java/lang/IndexOutOfBoundsException")]), (1, 6, (some .int), [(0, 7, 8, "java/lang/IllegalArgumentException"), (0, 7, 11, "java/lang/UnsupportedOperationException")]), (2, 12, (some .int), [(0, 9, 10, "java/lang/IndexOutOfBoundsException")]), (2, 12, (some .int), [(0, 9, 10, "java/lang/IndexOutOfBoundsException")]), (5, 30, (some .int), [(0, 11, 12, "java/lang/IndexOutOfBoundsException"), (0, 11, 15, "java/lang/IllegalArgumentException")]), (4, 24, (some .int), [(0, 11, 12, "java/lang/IndexOutOfBoundsException")]), (3, 18, (some .int), [(0, 13, 14, "java/lang/IndexOutOfBoundsException")]), (2, 12, (some .int), [(0, 9, 10, "java/lang/IndexOutOfBoundsException")]), (1, 6, (some .int), [(0, 8, 9, "java/lang/IndexOutOfBoundsException")]), (2, 12, (some .int), [(0, 11, 12, "java/lang/IndexOutOfBoundsException"), (0, 11, 15, "java/lang/IllegalArgumentException")]), (1, 6, (some .int), [(0, 8, 9, "java/lang/IndexOutOfBoundsException")]), (1, 6, (some .int), [(0, 3, 4, "java/lang/IllegalArgumentException")]), (1, 6, (some .int), [(0, 7, 8, "java/lang/IllegalArgumentException")]), (2, 12, (some .int), [(0, 8, 9, "java/lang/IndexOutOfBoundsException"), (0, 8, 12, "java/util/NoSuchElementException")]), (1, 6, (some .int), [(0, 8, 9, "java/util/NoSuchElementException")]), (1, 6, (some .int), [(0, 7, 8, "java/lang/IndexOutOfBoundsException")]), (1, 6, (some .int), [(0, 7, 8, "java/lang/IndexOutOfBoundsException")]), (1, 6, (some .int), [(0, 8, 9, "java/util/NoSuchElementException")]), (0, 0, (some .int), []), (0, 0, (some .int), []), (0, 0, (some .int), []), (0, 0, (some .int), []), (0, 0, (some .int), []), (0, 0, (some .byte), []), (0, 0, (some .char), []), (0, 0, (some .boolean), []), (0, 0, none, []), (0, 0, (some .char), []), (0, 0, (some .int), []), (601024, 7293034, (some .boolean), [])]
def mlL : List Nat := [1, 4, 3, 3, 3, 2, 3, 2, 1, 4, 4, 3, 3, 6, 1, 3, 3, 1, 10, 2, 2, 6, 9, 12, 5, 7, 6, 1, 2, 1, 7, 1, 1, 12, 3, 3, 5, 5, 9, 2, 2, 2, 1, 3, 6, 2, 4, 4, 6, 3, 4, 7, 4, 3, 2, 4, 2, 4, 2, 1, 5, 5, 3, 8, 3, 3, 2, 2, 4, 2, 2, 2, 1, 2, 3, 4, 3, 4, 5, 4, 6, 5, 6, 3, 3, 1, 1, 3, 3, 4, 5, 2, 1, 1, 3, 2, 1, 3, 2, 1, 1, 4, 6, 5, 5, 1, 2, 3, 1, 6, 2, 1, 2, 3, 3, 2, 4, 2, 6, 7, 6, 2, 4, 2, 5, 6, 3, 4, 5, 6, 5, 4, 3, 4, 4, 6, 8, 6, 8, 5, 8, 4, 6, 7, 3, 5, 3, 5, 6, 4, 3, 2, 4, 6, 6, 9, 7, 5, 4, 3, 5, 11, 11, 4, 3, 1, 1, 1, 2, 2, 2, 2, 1, 5, 4, 2, 2, 1, 3, 3, 1, 1, 2, 2, 7, 2, 1, 3, 1, 1, 4, 2, 2, 4, 1, 1, 2, 2, 4, 3, 4, 5, 10, 3, 6, 4, 6, 2, 1, 1, 11, 2, 3, 4, 7, 6, 2, 2, 7, 6, 2, 3, 3, 10, 4, 5, 3, 18, 12, 4, 4, 2, 3, 2, 1, 2, 4, 3, 5, 6, 4, 5, 3, 6, 3, 10, 2, 9, 1, 2, 4, 5, 1, 1, 4, 2, 5, 4, 2, 8, 4, 7, 7, 4, 2, 4, 5, 4, 6, 3, 3, 8, 8, 6, 10, 5, 10, 4, 3, 9, 3, 7, 2, 3, 3, 8, 5, 5, 3, 5, 3, 4, 10, 15, 3, 3, 2, 4, 3, 5, 5, 4, 6, 4, 8, 8, 8, 3, 6, 4, 6, 6, 5, 5, 4, 5, 4, 6, 6, 8, 8, 7, 6, 5, 5, 5, 3, 4, 5, 5, 4, 5, 5, 3, 1, 2, 2, 1, 1, 2, 1, 2, 2, 3, 8]
def exwL : List (List (Nat × Nat × Nat × Nat)) := [[], [], [], [], [], [], [], [], [], [], [], [], [], [], [], [], [], [], [], [], [], [], [], [], [], [], [], [], [], [], [], [], [], [], [], [], [], [], [], [], [], [], [], [], [], [], [], [], [], [], [], [], [], [], [], [], [], [], [], [], [], [], [], [], [], [], [], [], [], [], [], [], [], [], [], [], [], [], [], [], [], [], [], [], [], [], [], [], [], [], [], [], [], [], [], [], [], [], [], [], [], [], [], [], [], [], [], [], [], [], [], [], [], [], [], [], [], [], [], [], [], [], [], [], [], [], [], [], [], [], [], [], [], [], [], [], [], [], [], [], [], [], [], [], [], [], [], [], [], [], [], [], [], [], [], [], [], [], [], [], [], [], [], [], [], [], [], [], [], [], [], [], [], [], [], [], [], [], [], [], [], [], [], [], [], [], [], [], [], [], [], [], [], [], [], [], [], [], [], [], [], [], [], [], [], [], [], [], [], [], [], [], [], [], [], [], [], [], [], [], [], [], [], [], [], [], [], [], [], [], [], [], [], [], [], [], [], [], [], [], [], [], [], [], [], [], [], [], [], [], [], [], [], [], [], [], [], [], [], [], [], [], [], [], [], [], [], [], [], [], [], [], [], [], [], [], [], [], [], [], [], [], [], [], [], [], [], [], [], [], [], [], [], [], [], [], [], [], [(0, 8, 11, 13), (0, 8, 14, 15)], [(0, 10, 13, 21)], [(0, 10, 13, 21)], [(0, 9, 12, 21)], [(0, 12, 15, 21)], [(0, 9, 12, 21)], [(0, 16, 19, 21), (0, 16, 23, 13)], [(0, 16, 19, 13), (0, 16, 23, 15)], [(0, 16, 19, 21), (0, 16, 23, 13)], [(0, 5, 8, 13)], [(0, 12, 15, 21), (0, 12, 19, 56)], [(0, 9, 12, 13), (0, 9, 15, 15)], [(0, 19, 22, 21)], [(0, 19, 22, 21), (0, 19, 26, 13)], [(0, 10, 13, 21)], [(0, 10, 13, 21)], [(0, 9, 12, 21)], [(0, 10, 13, 21)], [(0, 9, 12, 13), (0, 9, 15, 15)], [(0, 12, 15, 21)], [(0, 12, 15, 21)], [(0, 16, 19, 21), (0, 16, 23, 13)], [(0, 16, 19, 21)], [(0, 21, 24, 21)], [(0, 12, 15, 21)], [(0, 10, 13, 21)], [(0, 17, 20, 21), (0, 17, 24, 13)], [(0, 10, 13, 21)], [(0, 5, 8, 13)], [(0, 9, 12, 13)], [(0, 10, 13, 21), (0, 10, 17, 56)], [(0, 10, 13, 56)], [(0, 9, 12, 21)], [(0, 9, 12, 21)], [(0, 10, 13, 56)], [], [], [], [], [], [], [], [], [], [], [], []]
def kindL : List Nat := [2, 1, 1, 1, 1, 1, 1, 1, 2, 1, 1, 1, 1, 1, 2, 1, 1, 1, 1, 1, 1, 1, 1, 1, 1, 1, 1, 2, 1, 2, 1, 0, 1, 1, 0, 1, 1, 1, 1, 0, 1, 1, 2, 1, 1, 0, 1, 1, 1, 1, 1, 1, 1, 1, 1, 1, 1, 1, 1, 2, 1, 1, 1, 1, 0, 0, 1, 2, 1, 1, 1, 1, 0, 1, 1, 1, 1, 1, 1, 1, 1, 1, 1, 1, 2, 1, 1, 1, 1, 1, 1, 1, 2, 1, 1, 1, 1, 1, 0, 0, 0, 1, 1, 1, 1, 1, 1, 1, 2, 1, 1, 1, 1, 1, 1, 1, 1, 1, 1, 1, 1, 1, 1, 1, 1, 1, 1, 1, 1, 1, 1, 0, 1, 1, 1, 1, 1, 1, 1, 1, 1, 1, 1, 1, 1, 1, 1, 1, 1, 1, 1, 1, 1, 1, 1, 1, 1, 1, 1, 1, 1, 1, 0, 1, 1, 1, 1, 1, 1, 1, 1, 1, 0, 1, 0, 0, 0, 1, 1, 0, 2, 1, 1, 1, 1, 1, 1, 1, 1, 1, 1, 1, 1, 1, 1, 0, 1, 1, 1, 1, 1, 1, 1, 1, 1, 1, 1, 1, 0, 0, 1, 1, 1, 0, 1, 1, 0, 1, 1, 1, 1, 0, 0, 1, 1, 1, 0, 1, 1, 1, 1, 0, 1, 1, 0, 1, 1, 0, 1, 1, 1, 1, 1, 1, 1, 1, 1, 1, 0, 0, 1, 1, 1, 1, 1, 1, 1, 1, 1, 1, 1, 1, 1, 1, 1, 1, 1, 1, 1, 1, 1, 1, 1, 1, 1, 1, 1, 1, 1, 1, 1, 1, 1, 1, 1, 1, 1, 1, 1, 1, 1, 1, 0, 1, 1, 1, 1, 1, 0, 0, 0, 0, 0, 0, 0, 0, 0, 0, 0, 0, 0, 0, 0, 0, 0, 0, 0, 0, 0, 0, 0, 0, 0, 0, 0, 0, 0, 0, 0, 0, 0, 0, 0, 0, 0, 0, 0, 1, 1, 1, 1, 0, 0, 0, 3]
def mhL : List (Nat × Nat × Nat × Nat) := [(114, 333, 332, 0), (114, 1079, 1077, 1078), (114, 1109, 1107, 1108), (114, 1479, 1477, 1478), (114, 1153, 1151, 1152), (114, 567, 565, 566), (114, 1417, 1415, 1416), (114, 751, 749, 750), (116, 485, 484, 0), (116, 673, 671, 672), (116, 1413, 1411, 1412), (116, 1321, 1319, 1320), (116, 1325, 1323, 1324), (116, 689, 687, 688), (115, 433, 432, 0), (115, 1066, 1064, 1065), (115, 602, 600, 601), (115, 771, 769, 770), (115, 606, 604, 605), (115, 610, 609, 3), (115, 669, 668, 10), (115, 614, 613, 4), (115, 642, 641, 5), (115, 646, 645, 6), (115, 653, 652, 7), (115, 657, 656, 8), (115, 665, 664, 9), (113, 313, 312, 0), (113, 746, 744, 745), (111, 246, 245, 0), (111, 796, 794, 795), (111, 803, 802, 0), (111, 892, 890, 891), (111, 900, 898, 899), (111, 907, 906, 0), (111, 904, 903, 18), (111, 911, 909, 910), (111, 896, 895, 17), (111, 915, 914, 19), (111, 922, 921, 0), (111, 928, 927, 20), (111, 731, 729, 730), (109, 193, 192, 0), (109, 1181, 1179, 1180), (109, 1267, 1266, 29), (109, 1279, 1278, 0), (109, 1288, 1287, 30), (109, 1292, 1291, 31), (109, 1296, 1295, 32), (109, 1300, 1299, 33), (109, 1304, 1303, 34), (109, 685, 684, 11), (109, 681, 679, 680), (109, 677, 675, 676), (109, 693, 691, 692), (109, 575, 573, 574), (109, 1466, 1464, 1465), (109, 1422, 1420, 1421), (109, 756, 754, 755), (112, 252, 251, 0), (112, 634, 632, 633), (112, 638, 636, 637), (112, 661, 659, 660), (112, 618, 616, 617), (112, 621, 620, 0), (112, 624, 623, 0), (112, 741, 739, 740), (108, 180, 179, 0), (108, 571, 569, 570), (108, 598, 596, 597), (108, 1029, 1027, 1028), (108, 587, 585, 586), (108, 590, 589, 0), (108, 783, 781, 782), (108, 583, 581, 582), (108, 1125, 1123, 1124), (108, 779, 777, 778), (108, 1515, 1513, 1514), (108, 1511, 1509, 1510), (108, 1454, 1452, 1453), (108, 1120, 1118, 1119), (108, 1137, 1135, 1136), (108, 1149, 1147, 1148), (108, 727, 725, 726), (110, 227, 226, 0), (110, 1349, 1347, 1348), (110, 1353, 1351, 1352), (110, 719, 718, 15), (110, 715, 713, 714), (110, 1358, 1356, 1357), (110, 1483, 1481, 1482), (110, 761, 759, 760), (107, 143, 142, 0), (107, 543, 541, 542), (107, 547, 545, 546), (107, 800, 798, 799), (107, 1276, 1274, 1275), (107, 1185, 1183, 1184), (107, 1188, 1187, 0), (107, 1191, 1190, 0), (107, 1194, 1193, 0), (107, 1198, 1197, 25), (107, 1202, 1201, 26), (107, 1255, 1254, 27), (107, 1259, 1258, 28), (107, 1263, 1261, 1262), (107, 1271, 1269, 1270), (107, 1283, 1281, 1282), (106, 135, 134, 0), (106, 539, 537, 538), (106, 551, 549, 550), (106, 555, 553, 554), (106, 792, 790, 791), (106, 937, 935, 936), (106, 965, 963, 964), (106, 974, 972, 973), (106, 981, 979, 980), (106, 989, 987, 988), (106, 996, 994, 995), (106, 1011, 1009, 1010), (106, 1021, 1019, 1020), (106, 1037, 1035, 1036), (106, 1046, 1044, 1045), (106, 1073, 1071, 1072), (106, 1086, 1084, 1085), (106, 1104, 1102, 1103), (106, 1116, 1114, 1115), (106, 1133, 1131, 1132), (106, 1145, 1143, 1144), (106, 1164, 1162, 1163), (106, 1169, 1168, 24), (106, 1157, 1156, 0), (106, 1176, 1174, 1175), (106, 1313, 1311, 1312), (106, 1332, 1330, 1331), (106, 1317, 1316, 35), (106, 1339, 1337, 1338), (106, 1365, 1363, 1364), (106, 1369, 1368, 37), (106, 1376, 1374, 1375), (106, 1380, 1379, 38), (106, 1387, 1385, 1386), (106, 579, 578, 1), (106, 594, 593, 2), (106, 1394, 1392, 1393), (106, 559, 557, 558), (106, 703, 702, 13), (106, 563, 562, 0), (106, 697, 696, 12), (106, 1401, 1399, 1400), (106, 1409, 1407, 1408), (106, 1429, 1427, 1428), (106, 1437, 1435, 1436), (106, 1442, 1441, 39), (106, 1446, 1445, 40), (106, 1450, 1449, 41), (106, 1458, 1457, 42), (106, 1462, 1461, 43), (106, 1475, 1473, 1474), (106, 1491, 1489, 1490), (106, 1499, 1497, 1498), (106, 1506, 1504, 1505), (106, 1518, 1517, 0), (106, 1525, 1523, 1524), (106, 707, 705, 706), (106, 711, 710, 14), (106, 723, 721, 722), (106, 767, 765, 766), (106, 775, 773, 774), (106, 941, 940, 21), (106, 1025, 1024, 22), (106, 1090, 1089, 23), (106, 1095, 1094, 0), (106, 1343, 1342, 36), (106, 999, 998, 0), (106, 1002, 1001, 0), (106, 734, 733, 0), (117, 1530, 1528, 1529), (117, 1670, 1669, 49), (117, 1684, 1683, 0), (117, 1535, 1534, 0), (117, 1756, 1755, 58), (117, 1626, 1624, 1625), (117, 1630, 1628, 1629), (117, 1634, 1632, 1633), (117, 1638, 1636, 1637), (117, 1650, 1649, 44), (117, 1666, 1665, 48), (117, 1662, 1661, 47), (117, 1892, 1891, 76), (117, 1903, 1902, 77), (117, 1919, 1918, 79), (117, 1658, 1657, 46), (117, 1914, 1913, 78), (117, 1642, 1640, 1641), (117, 1673, 1672, 0), (117, 1681, 1680, 50), (117, 1654, 1653, 45), (117, 1646, 1644, 1645), (117, 1677, 1675, 1676), (117, 1700, 1699, 53), (117, 1696, 1695, 52), (117, 1692, 1691, 51), (117, 1688, 1686, 1687), (117, 1711, 1710, 54), (117, 1707, 1705, 1706), (117, 1719, 1718, 55), (117, 1715, 1713, 1714), (117, 1731, 1730, 0), (117, 1734, 1733, 0), (117, 1727, 1726, 56), (117, 1723, 1721, 1722), (117, 1852, 1851, 70), (117, 1741, 1740, 0), (117, 1745, 1744, 57), (117, 1738, 1736, 1737), (117, 1752, 1751, 0), (117, 1764, 1763, 59), (117, 1749, 1747, 1748), (117, 1760, 1758, 1759), (117, 1768, 1766, 1767), (117, 1783, 1782, 0), (117, 1786, 1785, 0), (117, 1794, 1793, 63), (117, 1807, 1806, 65), (117, 1803, 1802, 64), (117, 1798, 1797, 0), (117, 1790, 1789, 62), (117, 1780, 1779, 61), (117, 1776, 1775, 60), (117, 1772, 1770, 1771), (117, 1814, 1813, 0), (117, 1829, 1828, 67), (117, 1822, 1821, 66), (117, 1825, 1824, 0), (117, 1876, 1875, 73), (117, 1811, 1809, 1810), (117, 1832, 1831, 0), (117, 1818, 1816, 1817), (117, 1836, 1834, 1835), (117, 1848, 1847, 69), (117, 1844, 1843, 68), (117, 1840, 1838, 1839), (117, 1860, 1859, 71), (117, 1856, 1854, 1855), (117, 1868, 1867, 72), (117, 1864, 1862, 1863), (117, 1872, 1870, 1871), (117, 1898, 1897, 0), (117, 1895, 1894, 0), (117, 1936, 1935, 83), (117, 1931, 1930, 82), (117, 1927, 1926, 81), (117, 1923, 1922, 80), (117, 1888, 1887, 75), (117, 1884, 1883, 74), (117, 1880, 1878, 1879), (117, 1967, 1966, 87), (117, 1975, 1974, 89), (117, 1979, 1978, 90), (117, 1971, 1970, 88), (117, 2023, 2022, 95), (117, 1959, 1958, 85), (117, 1955, 1954, 84), (117, 1963, 1962, 86), (117, 1951, 1949, 1950), (117, 1983, 1981, 1982), (117, 1995, 1994, 92), (117, 1991, 1990, 91), (117, 1987, 1985, 1986), (117, 1999, 1997, 1998), (117, 2003, 2001, 2002), (117, 2011, 2010, 93), (117, 2007, 2005, 2006), (117, 2019, 2018, 94), (117, 2015, 2013, 2014), (117, 2031, 2030, 96), (117, 2027, 2025, 2026), (117, 2043, 2042, 98), (117, 2039, 2038, 97), (117, 2035, 2033, 2034), (117, 2047, 2045, 2046), (117, 2051, 2049, 2050), (117, 2067, 2066, 101), (117, 2063, 2062, 100), (117, 2071, 2070, 102), (117, 2059, 2058, 99), (117, 2075, 2074, 103), (117, 2055, 2053, 2054), (117, 2079, 2077, 2078), (117, 2083, 2081, 2082), (117, 2087, 2085, 2086), (117, 2095, 2094, 0), (117, 2091, 2089, 2090), (117, 2103, 2102, 104), (117, 2099, 2097, 2098), (117, 2107, 2105, 2106), (117, 2111, 2109, 2110), (105, 786, 785, 0), (105, 932, 931, 0), (105, 961, 960, 0), (105, 970, 969, 0), (105, 977, 976, 0), (105, 985, 984, 0), (105, 992, 991, 0), (105, 1007, 1006, 0), (105, 1017, 1016, 0), (105, 1033, 1032, 0), (105, 1041, 1040, 0), (105, 1069, 1068, 0), (105, 1082, 1081, 0), (105, 1100, 1099, 0), (105, 1112, 1111, 0), (105, 1129, 1128, 0), (105, 1141, 1140, 0), (105, 1160, 1159, 0), (105, 1172, 1171, 0), (105, 1309, 1308, 0), (105, 1328, 1327, 0), (105, 1335, 1334, 0), (105, 1361, 1360, 0), (105, 1372, 1371, 0), (105, 1383, 1382, 0), (105, 1390, 1389, 0), (105, 1397, 1396, 0), (105, 1405, 1404, 0), (105, 1425, 1424, 0), (105, 1433, 1432, 0), (105, 1471, 1470, 0), (105, 1487, 1486, 0), (105, 1495, 1494, 0), (105, 1502, 1501, 0), (105, 1521, 1520, 0), (123, 1703, 1702, 0), (123, 649, 648, 0), (123, 630, 629, 0), (123, 627, 626, 0), (127, 1207, 1205, 1206), (127, 1211, 1209, 1210), (127, 1217, 1215, 1216), (127, 1221, 1219, 1220), (127, 1227, 1226, 0), (128, 1224, 1223, 0), (129, 1232, 1231, 0), (0, 0, 0, 0)]
def strTab : List (String × Nat × String × Nat) := [("RidgeBureau", 88, "the text is wrong", 999), ("RidgeBureau", 98, "there are 60 prints", 999), ("RidgeBureau", 504, "no such print", 999), ("RidgeBureau", 117, "no such cell", 999), ("RidgeBureau", 123, "no such corner", 999), ("RidgeBureau", 520, "no such point", 999), ("RidgeBureau", 160, "no such rectangle", 999), ("RidgeBureau", 165, "there are 20 marks", 999), ("RidgeBureau", 506, "no such mark", 999), ("RidgeBureau", 190, "no such slack", 999), ("RidgeBureau", 197, "no such what", 999), ("RidgeBureau", 222, "no such name", 999), ("RidgeBureau", 227, "there are 16 cards", 999), ("RidgeBureau", 511, "no such card", 999), ("RidgeBureau", 516, "no such finger", 999), ("RidgeBureau", 249, "no such class", 999), ("RidgeBureau", 280, "no such day", 999), ("RidgeBureau$Tape", 59, "same doubt need fingers keep strike if and or not grave child cleared guilty pairs against points class age ", 0), ("RidgeBureau", 288, "there are 10 texts", 999), ("RidgeBureau", 518, "no such examiner", 999), ("RidgeBureau", 343, "nobody says that", 999), ("RidgeBureau", 413, "nobody tells that", 999), ("RidgeBureau", 425, "no such desk", 999), ("RidgeBureau", 430, "no such many days", 999), ("RidgeBureau", 475, "no such hit, or what", 999), ("RidgeBureau", 490, "no such row", 999), ("RidgeBureauModel", 321, "same", 1), ("RidgeBureauModel", 323, "doubt", 2), ("RidgeBureauModel", 325, "need", 3), ("RidgeBureauModel", 327, "fingers", 4), ("RidgeBureauModel", 329, "keep", 5), ("RidgeBureauModel", 331, "strike", 6), ("RidgeBureauModel", 333, "if", 7), ("RidgeBureauModel", 279, "not", 8), ("RidgeBureauModel", 290, "grave", 9), ("RidgeBureauModel", 292, "child", 10), ("RidgeBureauModel", 294, "cleared", 11), ("RidgeBureauModel", 296, "guilty", 12), ("RidgeBureauModel", 298, "pairs", 13), ("RidgeBureauModel", 300, "against", 14), ("RidgeBureauModel", 302, "points", 15), ("RidgeBureauModel", 304, "class", 16), ("RidgeBureauModel", 306, "age", 17), ("RidgeBureauModel", 311, "and", 18), ("RidgeBureauModel", 316, "or", 19)]
def nestTab : List (String × Nat × MethodName × String) := [("RidgeBureau", 9, yX9_init, "RidgeBureau"), ("RidgeBureau$State", 42, yX5_init, "RidgeBureau"), ("RidgeBureau$State", 59, yX4_init, "RidgeBureau"), ("RidgeBureau$Print", 17, yX6_init, "RidgeBureau"), ("RidgeBureau$State", 60, yX3_init, "RidgeBureau"), ("RidgeBureau$Mark", 9, yX6_init, "RidgeBureau"), ("RidgeBureau$State", 61, yX0_init, "RidgeBureau"), ("RidgeBureau", 28, yX2_init, "RidgeBureau"), ("RidgeBureau$Lays", 11, yX6_init, "RidgeBureau"), ("RidgeBureau", 35, yX1_init, "RidgeBureau"), ("RidgeBureau", 42, yX4_init, "RidgeBureau"), ("RidgeBureau", 49, yX5_init, "RidgeBureau"), ("RidgeBureau$Print", 92, yX10_copy, "RidgeBureau"), ("RidgeBureau$Sheet", 64, yX10_copy, "RidgeBureau"), ("RidgeBureau$Card", 34, yX10_copy, "RidgeBureau"), ("RidgeBureau$RuleText", 99, yX10_copy, "RidgeBureau"), ("RidgeBureau$Table", 42, yX10_copy, "RidgeBureau")]
def clsH : List (Nat × Nat) := [(330, 114), (482, 116), (430, 115), (310, 113), (243, 111), (190, 109), (249, 112), (177, 108), (224, 110), (140, 107), (132, 106), (1532, 117)]
def WS : List Cond := lw_tbl.filter goodWord
def codeOf (i : Nat) : List aI := codeL.getD i []
def pcOf (i j : Nat) : Nat := (pcL.getD i []).getD j 0
def yOf (i : Nat) : MethodName := yL.getD i objectInit
def bytOf (i : Nat) : ByteArray := bytL.getD i ⟨#[]⟩
def infoOf (i : Nat) : aInfo := infoL.getD i (0, 0, none, [])
def mlOf (i : Nat) : Nat := mlL.getD i 0
def exwOf (i : Nat) : List (Nat × Nat × Nat × Nat) := exwL.getD i []
def kindOf (i : Nat) : Nat := kindL.getD i 9
def retOf (i : Nat) : Option FieldType := (infoOf i).2.2.1
def mbOf (i : Nat) : Nat × Nat := ((infoOf i).1, (infoOf i).2.1)
def codeW (i : Nat) : Cond := if (exwOf i).isEmpty then .code (yOf i) (bytOf i) (mlOf i) (retOf i) else .codeWith (yOf i) (bytOf i) (mlOf i) (retOf i) (exwOf i)
def N0 : Nat := 1439
end
section
/-! what ties an instruction of the abstract machine to the bytecode, and a check by program -/
def cndJ (b : Nat) : Jvm.ClassFile.Cond := match b with
  | 0 => .eq
  | 1 => .ne
  | 2 => .lt
  | 3 => .ge
  | 4 => .gt
  | _ => .le
def binJ (b : Nat) : Instr := match b with
  | 0 => .iadd
  | 1 => .isub
  | 2 => .imul
  | 3 => .iand
  | 4 => .ior
  | 5 => .ixor
  | 6 => .ishl
  | _ => .ishr
def dvJ (b : Nat) : Instr := match b with
  | 0 => .idiv
  | _ => .irem
def unJ (b : Nat) : Instr := match b with
  | 0 => .i2l
  | 1 => .i2b
  | 2 => .i2c
  | _ => .ineg
def binLJ (b : Nat) : Instr := match b with
  | 0 => .ladd
  | 1 => .lsub
  | 2 => .lmul
  | _ => .lor
def dvLJ (b : Nat) : Instr := match b with
  | 0 => .ldiv
  | _ => .lrem
def dupJ (b : Nat) : Instr := match b with
  | 0 => .dup
  | 1 => .dup2
  | _ => .pop
def retJ (b : Nat) : Instr := match b with
  | 0 => .ireturn
  | 1 => .areturn
  | 2 => .lreturn
  | _ => .return_
def arJ (op : Nat) : Instr := match op with
  | 22 => .arraylength
  | 23 => .iaload
  | 24 => .iastore
  | 25 => .baload
  | 26 => .bastore
  | 27 => .laload
  | 28 => .lastore
  | 29 => .aaload
  | _ => .aastore
def ldJ (a b : Nat) (J : Instr) (n : Nat) : Prop := match b with
  | 0 => (J = .iload a ∧ n = 2) ∨ ∃ k : Fin 4, J = .iload_n k ∧ (k : Nat) = a ∧ n = 1
  | 1 => (J = .aload a ∧ n = 2) ∨ ∃ k : Fin 4, J = .aload_n k ∧ (k : Nat) = a ∧ n = 1
  | 2 => (J = .lload a ∧ n = 2) ∨ ∃ k : Fin 4, J = .lload_n k ∧ (k : Nat) = a ∧ n = 1
  | _ => False
def stJ (a b : Nat) (J : Instr) (n : Nat) : Prop := match b with
  | 0 => (J = .istore a ∧ n = 2) ∨ ∃ k : Fin 4, J = .istore_n k ∧ (k : Nat) = a ∧ n = 1
  | 1 => (J = .astore a ∧ n = 2) ∨ ∃ k : Fin 4, J = .astore_n k ∧ (k : Nat) = a ∧ n = 1
  | 2 => (J = .lstore a ∧ n = 2) ∨ ∃ k : Fin 4, J = .lstore_n k ∧ (k : Nat) = a ∧ n = 1
  | _ => False
def coJ (own : String) (a : Nat) (v : Value) (J : Instr) (n : Nat) : Prop := match a with
  | 0 => ∃ z, J = .iconst z ∧ n = 1 ∧ v = .int (Int32.ofInt z)
  | 1 => ∃ z, J = .bipush z ∧ n = 2 ∧ v = .int (Int8.ofInt z).toInt32
  | 2 => ∃ z, J = .sipush z ∧ n = 3 ∧ v = .int (Int16.ofInt z).toInt32
  | 3 => ∃ z : Fin 2, J = .lconst z ∧ n = 1 ∧ v = .long (Int64.ofNat (z : Nat))
  | _ => ∃ ix x, J = .ldc2_w ix ∧ n = 3 ∧ v = .long x ∧ Cond.constantLong own ix x ∈ WS
def fldJ (own : String) (ix a b : Nat) : Prop := ∃ C T N, vwCl[a]? = some (C, T, N) ∧ b < N ∧ (T b).1 = C ∧ Cond.fieldLink own ix C (T b).2.1 (T b).2.2.1 ∈ WS
def linkJ (own : String) (ix : Nat) (y : MethodName) : Prop := Cond.methodLink own ix y ∈ WS ∨ ∃ h, (own, ix, y, h) ∈ nestTab
def stT (a : Nat) : String × String × String := match a with
  | 0 => ("RidgeBureau$Print", "RIDGES_ALONG_X", "[I")
  | 1 => ("RidgeBureau$Print", "RIDGES_ALONG_Y", "[I")
  | 2 => ("java/lang/String", "COMPACT_STRINGS", "Z")
  | _ => ("jdk/internal/util/Preconditions", "SIOOBE_FORMATTER", "Ljava/util/function/BiFunction;")
def strF (b : Nat) : String × String := match b with
  | 0 => ("value", "[B")
  | _ => ("coder", "B")
/-- words that are no good ones, but hold on when the machine grows warm -/
def warmW : Cond → Bool
  | .castable _ _ => true
  | .declares _ => true
  | .methodLinkNest _ _ _ _ => true
  | _ => false
def icOf (a : Nat) : Nat × Nat := match a with
  | 0 => (86, 90)
  | 1 => (96, 100)
  | 2 => (115, 119)
  | _ => (195, 199)
def exSup : List String := ["java/lang/RuntimeException", "java/lang/Exception"]
def thrJ (own : String) (cc : ByteArray) (pc a : Nat) : Prop := ∃ is text sd, own = RX10 ∧ a < 4 ∧ decode cc pc = .ok (.new (icOf a).1, 3) ∧ decode cc (pc + 3) = .ok (.dup, 1) ∧ (own, is, text, sd) ∈ strTab ∧
  ((decode cc (pc + 4) = .ok (.ldc is, 2) ∧ decode cc (pc + 6) = .ok (.invokespecial (icOf a).2, 3) ∧ decode cc (pc + 9) = .ok (.athrow, 1)) ∨
   (decode cc (pc + 4) = .ok (.ldc_w is, 3) ∧ decode cc (pc + 7) = .ok (.invokespecial (icOf a).2, 3) ∧ decode cc (pc + 10) = .ok (.athrow, 1)))
def callJ (own : String) (mid n : Nat) (l : List Nat) (J : Instr) : Prop := ∃ ix, linkJ own ix (yOf mid) ∧
  ((kindOf mid = 0 ∧ l = [] ∧ J = .invokestatic ix ∧ (parseMethodDescriptor (yOf mid).desc).map (fun d => d.parameters.length) = some n) ∨
   (kindOf mid = 1 ∧ Cond.methodLink own ix (yOf mid) ∈ WS ∧ J = .invokevirtual ix ∧ (parseMethodDescriptor (yOf mid).desc).map (fun d => d.parameters.length + 1) = some n ∧ ((l = [99] ∧ (yOf mid).cls = "java/lang/String") ∨ ∃ ci, l = [ci] ∧ ci ≠ 99 ∧ ci ≠ 100 ∧ (vwCl[ci]?).map (fun x => x.1) = some (yOf mid).cls)) ∨
   (kindOf mid = 2 ∧ l = [100] ∧ J = .invokespecial ix ∧ (parseMethodDescriptor (yOf mid).desc).map (fun d => d.parameters.length + 1) = some n))
/-- the instruction ins at place i of a method, tied to J of length n at pc -/
def OKJ (own : String) (cc : ByteArray) (ini : Bool) (pcs : Nat → Nat) (i : Nat) (ins : aI) (J : Instr) (n : Nat) : Prop :=
  let a := ins.2.1
  let b := ins.2.2.1
  let v := ins.2.2.2.1
  let nx := pcs (i + 1) = pcs i + n
  match ins.1 with
  | 0 => nx ∧ ldJ a b J n
  | 1 => nx ∧ stJ a b J n
  | 2 => nx ∧ coJ own a v J n
  | 3 => nx ∧ ∃ z, J = .iinc a z ∧ n = 3 ∧ v = .int (Int32.ofInt z)
  | 4 => nx ∧ J = binJ b ∧ n = 1 ∧ b < 8
  | 5 => nx ∧ J = dvJ b ∧ n = 1 ∧ b < 2
  | 6 => nx ∧ J = unJ b ∧ n = 1 ∧ b < 4
  | 8 => nx ∧ J = binLJ b ∧ n = 1 ∧ b < 4
  | 9 => nx ∧ J = dvLJ b ∧ n = 1 ∧ b < 2
  | 10 => nx ∧ J = .lcmp ∧ n = 1
  | 11 => nx ∧ J = .lshl ∧ n = 1
  | 12 => nx ∧ J = dupJ b ∧ n = 1 ∧ b < 3
  | 15 => nx ∧ b < 6 ∧ ∃ off, J = .ifCond (cndJ b) off ∧ n = 3 ∧ (pcs i : Int) + off = (pcs a : Int)
  | 16 => nx ∧ b < 6 ∧ ∃ off, J = .if_icmp (cndJ b) off ∧ n = 3 ∧ (pcs i : Int) + off = (pcs a : Int)
  | 17 => ∃ off, J = .goto off ∧ n = 3 ∧ (pcs i : Int) + off = (pcs a : Int)
  | 18 => ∃ dflt lo hi offs, J = .tableswitch dflt lo hi offs ∧ lo = (b : Int) ∧ hi + 1 = (b : Int) + (ins.2.2.2.2.length : Int) ∧ (pcs i : Int) + dflt = (pcs a : Int) ∧ ∀ (j t : Nat), ins.2.2.2.2[j]? = some t → ∃ off : Int, offs[j]? = some off ∧ (pcs i : Int) + off = (pcs t : Int)
  | 19 => nx ∧ ∃ ix, J = .getfield ix ∧ n = 3 ∧ fldJ own ix a b
  | 20 => nx ∧ ∃ ix C T N, J = .putfield ix ∧ n = 3 ∧ fldJ own ix a b ∧ vwCl[a]? = some (C, T, N) ∧ (T b).2.2.2 = false
  | 21 => nx ∧ ∃ ix C T N, J = .putfield ix ∧ n = 3 ∧ fldJ own ix a b ∧ vwCl[a]? = some (C, T, N) ∧ (T b).2.2.2 = true ∧ C = own ∧ ini = true
  | 31 => nx ∧ ∃ ix C T N, J = .new ix ∧ n = 3 ∧ vwCl[a]? = some (C, T, N) ∧ Cond.classLink own ix C ∈ WS
  | 32 => nx ∧ ((a < 4 ∧ ∃ at9, J = .newarray at9 ∧ n = 2 ∧ newarray.typeOf at9 = tyT a ∧ Cond.arrayClass (tyT a) ∈ WS) ∨ (4 ≤ a ∧ a < nTy ∧ ∃ ix C, J = .anewarray ix ∧ n = 3 ∧ tyT a = .object C ∧ Cond.classLink own ix C ∈ WS))
  | 34 => nx ∧ n = 3 ∧ callJ own a b ins.2.2.2.2 J
  | 36 => nx ∧ n = 3 ∧ ∃ ix, J = .invokestatic ix ∧ Cond.methodLink own ix arraycopyName ∈ WS
  | 37 => nx ∧ n = 3 ∧ ∃ ix, J = .invokespecial ix ∧ Cond.methodLink own ix objectInit ∈ WS
  | 38 => thrJ own cc (pcs i) a
  | 39 => J = retJ b ∧ n = 1 ∧ b < 4
  | 40 => nx ∧ ∃ ix text, (own, ix, text, a) ∈ strTab ∧ a < 100 ∧ ((J = .ldc ix ∧ n = 2) ∨ (J = .ldc_w ix ∧ n = 3))
  | 43 => nx ∧ n = 3 ∧ a < 4 ∧ ∃ ix, J = .getstatic ix ∧ Cond.fieldLink own ix (stT a).1 (stT a).2.1 (stT a).2.2 ∈ WS
  | 45 => nx ∧ stJ a 1 J n
  | 46 => nx ∧ n = 3 ∧ b < 2 ∧ ∃ ix, J = .getfield ix ∧ Cond.fieldLink own ix "java/lang/String" (strF b).1 (strF b).2 ∈ WS
  | 99 => True
  | op => nx ∧ 22 ≤ op ∧ op ≤ 30 ∧ J = arJ op ∧ n = 1
def OKI (own : String) (cc : ByteArray) (ini : Bool) (pcs : Nat → Nat) (i : Nat) (ins : aI) : Prop := ∃ J n, decode cc (pcs i) = .ok (J, n) ∧ OKJ own cc ini pcs i ins J n
/-! the same by program -/
def atT (h : Nat) (w : Cond) : Bool := decide (lw_tbl[h]? = some w) && goodWord w
theorem atT_ok {h : Nat} {w : Cond} (e : atT h w = true) : w ∈ WS := by
  simp only [atT, Bool.and_eq_true, decide_eq_true_eq] at e
  exact List.mem_filter.mpr ⟨List.mem_of_getElem? e.1, e.2⟩
def ldB (a b : Nat) (J : Instr) (n : Nat) : Bool := match b, J with
  | 0, .iload x => x == a && n == 2
  | 0, .iload_n x => x.val == a && n == 1
  | 1, .aload x => x == a && n == 2
  | 1, .aload_n x => x.val == a && n == 1
  | 2, .lload x => x == a && n == 2
  | 2, .lload_n x => x.val == a && n == 1
  | _, _ => false
theorem ldB_ok {a b : Nat} {J : Instr} {n : Nat} (h : ldB a b J n = true) : ldJ a b J n := by
  unfold ldB at h
  split at h <;> try simp only [Bool.and_eq_true, beq_iff_eq] at h
  · exact Or.inl ⟨by rw [h.1], h.2⟩
  · exact Or.inr ⟨_, rfl, h.1, h.2⟩
  · exact Or.inl ⟨by rw [h.1], h.2⟩
  · exact Or.inr ⟨_, rfl, h.1, h.2⟩
  · exact Or.inl ⟨by rw [h.1], h.2⟩
  · exact Or.inr ⟨_, rfl, h.1, h.2⟩
  · cases h
def stB (a b : Nat) (J : Instr) (n : Nat) : Bool := match b, J with
  | 0, .istore x => x == a && n == 2
  | 0, .istore_n x => x.val == a && n == 1
  | 1, .astore x => x == a && n == 2
  | 1, .astore_n x => x.val == a && n == 1
  | 2, .lstore x => x == a && n == 2
  | 2, .lstore_n x => x.val == a && n == 1
  | _, _ => false
theorem stB_ok {a b : Nat} {J : Instr} {n : Nat} (h : stB a b J n = true) : stJ a b J n := by
  unfold stB at h
  split at h <;> try simp only [Bool.and_eq_true, beq_iff_eq] at h
  · exact Or.inl ⟨by rw [h.1], h.2⟩
  · exact Or.inr ⟨_, rfl, h.1, h.2⟩
  · exact Or.inl ⟨by rw [h.1], h.2⟩
  · exact Or.inr ⟨_, rfl, h.1, h.2⟩
  · exact Or.inl ⟨by rw [h.1], h.2⟩
  · exact Or.inr ⟨_, rfl, h.1, h.2⟩
  · cases h
def coB (own : String) (a : Nat) (v : Value) (h : Nat) (J : Instr) (n : Nat) : Bool := match a, J with
  | 0, .iconst z => n == 1 && decide (v = .int (Int32.ofInt z))
  | 1, .bipush z => n == 2 && decide (v = .int (Int8.ofInt z).toInt32)
  | 2, .sipush z => n == 3 && decide (v = .int (Int16.ofInt z).toInt32)
  | 3, .lconst z => n == 1 && decide (v = .long (Int64.ofNat (z : Nat)))
  | 4, .ldc2_w ix => n == 3 && (match v with
    | .long x => atT h (.constantLong own ix x)
    | _ => false)
  | _, _ => false
theorem coB_ok {own : String} {a : Nat} {v : Value} {h : Nat} {J : Instr} {n : Nat} (e : coB own a v h J n = true) : coJ own a v J n := by
  unfold coB at e
  split at e
  · simp only [Bool.and_eq_true, beq_iff_eq, decide_eq_true_eq] at e
    exact ⟨_, rfl, e.1, e.2⟩
  · simp only [Bool.and_eq_true, beq_iff_eq, decide_eq_true_eq] at e
    exact ⟨_, rfl, e.1, e.2⟩
  · simp only [Bool.and_eq_true, beq_iff_eq, decide_eq_true_eq] at e
    exact ⟨_, rfl, e.1, e.2⟩
  · simp only [Bool.and_eq_true, beq_iff_eq, decide_eq_true_eq] at e
    exact ⟨_, rfl, e.1, e.2⟩
  · simp only [Bool.and_eq_true, beq_iff_eq] at e
    obtain ⟨e1, e2⟩ := e
    split at e2
    · exact ⟨_, _, rfl, e1, rfl, atT_ok e2⟩
    · cases e2
  · cases e
def fldB (own : String) (ix a b h : Nat) : Bool := match vwCl[a]? with
  | some (C, T, N) => decide (b < N) && decide ((T b).1 = C) && atT h (.fieldLink own ix C (T b).2.1 (T b).2.2.1)
  | none => false
theorem fldB_ok {own : String} {ix a b h : Nat} (e : fldB own ix a b h = true) : fldJ own ix a b := by
  unfold fldB at e
  split at e
  · rename_i C T N hc
    simp only [Bool.and_eq_true, decide_eq_true_eq] at e
    exact ⟨C, T, N, hc, e.1.1, e.1.2, atT_ok e.2⟩
  · cases e
def finB (a b : Nat) : Bool := match vwCl[a]? with
  | some (_, T, _) => (T b).2.2.2
  | none => false
def linkB (own : String) (ix : Nat) (y : MethodName) (h : Nat) : Bool := if h < 100000 then atT h (.methodLink own ix y) else match nestTab[h - 100000]? with
  | some q => decide (q.1 = own) && decide (q.2.1 = ix) && decide (q.2.2.1 = y)
  | none => false
theorem linkB_ok {own : String} {ix : Nat} {y : MethodName} {h : Nat} (e : linkB own ix y h = true) : linkJ own ix y := by
  unfold linkB at e
  split at e
  · exact Or.inl (atT_ok e)
  · split at e
    · rename_i q hq
      simp only [Bool.and_eq_true, decide_eq_true_eq] at e
      obtain ⟨⟨e1, e2⟩, e3⟩ := e
      refine Or.inr ⟨q.2.2.2, ?_⟩
      rw [← e1, ← e2, ← e3]
      exact List.mem_of_getElem? hq
    · cases e
def npB (mid : Nat) : Option Nat := (parseMethodDescriptor (yOf mid).desc).map (fun d => d.parameters.length)
def callB9 (own : String) (mid n : Nat) (l : List Nat) (h : Nat) (J : Instr) : Bool := match J with
  | .invokestatic ix => linkB own ix (yOf mid) h && kindOf mid == 0 && l.isEmpty && decide (npB mid = some n)
  | .invokevirtual ix => atT h (.methodLink own ix (yOf mid)) && kindOf mid == 1 && decide ((npB mid).map (fun x => x + 1) = some n) && (match l with
    | [ci] => if ci = 99 then decide ((yOf mid).cls = "java/lang/String") else decide ((vwCl[ci]?).map (fun x => x.1) = some (yOf mid).cls)
    | _ => false)
  | .invokespecial ix => linkB own ix (yOf mid) h && kindOf mid == 2 && decide (l = [100]) && decide ((npB mid).map (fun x => x + 1) = some n)
  | _ => false
theorem callB9_ok {own : String} {mid n : Nat} {l : List Nat} {h : Nat} {J : Instr} (e : callB9 own mid n l h J = true) : callJ own mid n l J := by
  unfold callB9 at e
  split at e
  · simp only [Bool.and_eq_true, beq_iff_eq, decide_eq_true_eq, List.isEmpty_iff] at e
    obtain ⟨⟨⟨e1, e2⟩, e3⟩, e4⟩ := e
    exact ⟨_, linkB_ok e1, Or.inl ⟨e2, e3, rfl, e4⟩⟩
  · simp only [Bool.and_eq_true, beq_iff_eq, decide_eq_true_eq] at e
    obtain ⟨⟨⟨e1, e2⟩, e3⟩, e4⟩ := e
    refine ⟨_, Or.inl (atT_ok e1), Or.inr (Or.inl ⟨e2, atT_ok e1, rfl, ?_, ?_⟩)⟩
    · rw [npB, Option.map_map] at e3
      exact e3
    · split at e4
      · rename_i ci
        split at e4
        · rename_i hc
          subst hc
          exact Or.inl ⟨rfl, of_decide_eq_true e4⟩
        · rename_i hc
          exact Or.inr ⟨ci, rfl, hc, fun h9 => (by subst h9; cases (of_decide_eq_true e4)), of_decide_eq_true e4⟩
      · cases e4
  · simp only [Bool.and_eq_true, beq_iff_eq, decide_eq_true_eq] at e
    obtain ⟨⟨⟨e1, e2⟩, e3⟩, e4⟩ := e
    refine ⟨_, linkB_ok e1, Or.inr (Or.inr ⟨e2, e3, rfl, ?_⟩)⟩
    rw [npB, Option.map_map] at e4
    exact e4
  · cases e
def isOk (cc : ByteArray) (pc : Nat) (J : Instr) (n : Nat) : Bool := decide (decode cc pc = .ok (J, n))
def thrB (own : String) (cc : ByteArray) (pc a h : Nat) : Bool := decide (own = RX10) && decide (a < 4) && isOk cc pc (.new (icOf a).1) 3 && isOk cc (pc + 3) .dup 1 && (match strTab[h]? with
  | some q => decide (q.1 = own) && ((isOk cc (pc + 4) (.ldc q.2.1) 2 && isOk cc (pc + 6) (.invokespecial (icOf a).2) 3 && isOk cc (pc + 9) .athrow 1) || (isOk cc (pc + 4) (.ldc_w q.2.1) 3 && isOk cc (pc + 7) (.invokespecial (icOf a).2) 3 && isOk cc (pc + 10) .athrow 1))
  | none => false)
theorem thrB_ok {own : String} {cc : ByteArray} {pc a h : Nat} (e : thrB own cc pc a h = true) : thrJ own cc pc a := by
  unfold thrB at e
  simp only [Bool.and_eq_true] at e
  obtain ⟨⟨⟨⟨e1, e2⟩, e3⟩, e4⟩, e5⟩ := e
  split at e5
  · rename_i q hq
    simp only [Bool.and_eq_true, Bool.or_eq_true, isOk, decide_eq_true_eq] at e1 e2 e3 e4 e5
    refine ⟨q.2.1, q.2.2.1, q.2.2.2, e1, e2, e3, e4, ?_, ?_⟩
    · rw [← e5.1]; exact List.mem_of_getElem? hq
    · rcases e5.2 with ⟨⟨h1, h2⟩, h3⟩ | ⟨⟨h1, h2⟩, h3⟩
      · exact Or.inl ⟨h1, h2, h3⟩
      · exact Or.inr ⟨h1, h2, h3⟩
  · cases e5

def swB (pcs : Nat → Nat) (i : Nat) (l : List Nat) (offs : Array Int) : Bool := (List.range l.length).all fun j => match l[j]?, offs[j]? with
  | some t, some off => decide ((pcs i : Int) + off = (pcs t : Int))
  | _, _ => false
theorem swB_ok {pcs : Nat → Nat} {i : Nat} {l : List Nat} {offs : Array Int} (h : swB pcs i l offs = true) : ∀ (j t : Nat), l[j]? = some t → ∃ off : Int, offs[j]? = some off ∧ (pcs i : Int) + off = (pcs t : Int) := by
  intro j t hj
  have hl : j < l.length := (List.getElem?_eq_some_iff.mp hj).1
  have h1 := List.all_eq_true.mp h j (List.mem_range.mpr hl)
  rw [hj] at h1
  split at h1
  · rename_i t' off ht ho
    cases ht
    exact ⟨off, ho, of_decide_eq_true h1⟩
  · cases h1
def chJ (own : String) (cc : ByteArray) (ini : Bool) (pcs : Nat → Nat) (i : Nat) (ins : aI) (h : Nat) (J : Instr) (n : Nat) : Bool :=
  let a := ins.2.1
  let b := ins.2.2.1
  let v := ins.2.2.2.1
  let nx := decide (pcs (i + 1) = pcs i + n)
  match ins.1 with
  | 0 => nx && ldB a b J n
  | 1 => nx && stB a b J n
  | 2 => nx && coB own a v h J n
  | 3 => nx && n == 3 && (match J with
    | .iinc x z => x == a && decide (v = .int (Int32.ofInt z))
    | _ => false)
  | 4 => nx && decide (J = binJ b) && n == 1 && decide (b < 8)
  | 5 => nx && decide (J = dvJ b) && n == 1 && decide (b < 2)
  | 6 => nx && decide (J = unJ b) && n == 1 && decide (b < 4)
  | 8 => nx && decide (J = binLJ b) && n == 1 && decide (b < 4)
  | 9 => nx && decide (J = dvLJ b) && n == 1 && decide (b < 2)
  | 10 => nx && decide (J = .lcmp) && n == 1
  | 11 => nx && decide (J = .lshl) && n == 1
  | 12 => nx && decide (J = dupJ b) && n == 1 && decide (b < 3)
  | 15 => nx && decide (b < 6) && n == 3 && (match J with
    | .ifCond c off => decide (c = cndJ b) && decide ((pcs i : Int) + off = (pcs a : Int))
    | _ => false)
  | 16 => nx && decide (b < 6) && n == 3 && (match J with
    | .if_icmp c off => decide (c = cndJ b) && decide ((pcs i : Int) + off = (pcs a : Int))
    | _ => false)
  | 17 => n == 3 && (match J with
    | .goto off => decide ((pcs i : Int) + off = (pcs a : Int))
    | _ => false)
  | 18 => (match J with
    | .tableswitch dflt lo hi offs => decide (lo = (b : Int)) && decide (hi + 1 = (b : Int) + (ins.2.2.2.2.length : Int)) && decide ((pcs i : Int) + dflt = (pcs a : Int)) && swB pcs i ins.2.2.2.2 offs
    | _ => false)
  | 19 => nx && n == 3 && (match J with
    | .getfield ix => fldB own ix a b h
    | _ => false)
  | 20 => nx && n == 3 && (match J with
    | .putfield ix => fldB own ix a b h && (match vwCl[a]? with
      | some (_, T, _) => decide ((T b).2.2.2 = false)
      | none => false)
    | _ => false)
  | 21 => nx && n == 3 && ini && (match J with
    | .putfield ix => fldB own ix a b h && (match vwCl[a]? with
      | some (C, T, _) => decide ((T b).2.2.2 = true) && decide (C = own)
      | none => false)
    | _ => false)
  | 31 => nx && n == 3 && (match J with
    | .new ix => (match vwCl[a]? with
      | some (C, _, _) => atT h (.classLink own ix C)
      | none => false)
    | _ => false)
  | 32 => nx && (match J with
    | .newarray at9 => decide (a < 4) && n == 2 && decide (newarray.typeOf at9 = tyT a) && atT h (.arrayClass (tyT a))
    | .anewarray ix => decide (4 ≤ a) && decide (a < nTy) && n == 3 && (match tyT a with
      | .object C => atT h (.classLink own ix C)
      | _ => false)
    | _ => false)
  | 34 => nx && n == 3 && callB9 own a b ins.2.2.2.2 h J
  | 36 => nx && n == 3 && (match J with
    | .invokestatic ix => atT h (.methodLink own ix arraycopyName)
    | _ => false)
  | 37 => nx && n == 3 && (match J with
    | .invokespecial ix => atT h (.methodLink own ix objectInit)
    | _ => false)
  | 38 => thrB own cc (pcs i) a h
  | 39 => decide (J = retJ b) && n == 1 && decide (b < 4)
  | 40 => nx && decide (a < 100) && (match strTab[h]? with
    | some q => decide (q.1 = own) && decide (q.2.2.2 = a) && ((decide (J = .ldc q.2.1) && n == 2) || (decide (J = .ldc_w q.2.1) && n == 3))
    | none => false)
  | 43 => nx && n == 3 && decide (a < 4) && (match J with
    | .getstatic ix => atT h (.fieldLink own ix (stT a).1 (stT a).2.1 (stT a).2.2)
    | _ => false)
  | 45 => nx && stB a 1 J n
  | 46 => nx && n == 3 && decide (b < 2) && (match J with
    | .getfield ix => atT h (.fieldLink own ix "java/lang/String" (strF b).1 (strF b).2)
    | _ => false)
  | 99 => true
  | 22 => nx && decide (J = arJ 22) && n == 1
  | 23 => nx && decide (J = arJ 23) && n == 1
  | 24 => nx && decide (J = arJ 24) && n == 1
  | 25 => nx && decide (J = arJ 25) && n == 1
  | 26 => nx && decide (J = arJ 26) && n == 1
  | 27 => nx && decide (J = arJ 27) && n == 1
  | 28 => nx && decide (J = arJ 28) && n == 1
  | 29 => nx && decide (J = arJ 29) && n == 1
  | 30 => nx && decide (J = arJ 30) && n == 1
  | _ => false
set_option maxHeartbeats 4000000 in
theorem chJ_ok {own : String} {cc : ByteArray} {ini : Bool} {pcs : Nat → Nat} {i : Nat} {ins : aI} {h : Nat} {J : Instr} {n : Nat} (e : chJ own cc ini pcs i ins h J n = true) : OKJ own cc ini pcs i ins J n := by
  obtain ⟨op, a, b, v, l⟩ := ins
  unfold chJ at e
  dsimp only at e
  unfold OKJ
  dsimp only
  split at e <;> try simp only [Bool.and_eq_true, beq_iff_eq, decide_eq_true_eq] at e
  · exact ⟨e.1, ldB_ok e.2⟩
  · exact ⟨e.1, stB_ok e.2⟩
  · exact ⟨e.1, coB_ok e.2⟩
  · obtain ⟨⟨e1, e2⟩, e3⟩ := e
    split at e3
    · simp only [Bool.and_eq_true, beq_iff_eq, decide_eq_true_eq] at e3
      exact ⟨e1, _, by rw [e3.1], e2, e3.2⟩
    · cases e3
  · exact ⟨e.1.1.1, e.1.1.2, e.1.2, e.2⟩
  · exact ⟨e.1.1.1, e.1.1.2, e.1.2, e.2⟩
  · exact ⟨e.1.1.1, e.1.1.2, e.1.2, e.2⟩
  · exact ⟨e.1.1.1, e.1.1.2, e.1.2, e.2⟩
  · exact ⟨e.1.1.1, e.1.1.2, e.1.2, e.2⟩
  · exact ⟨e.1.1, e.1.2, e.2⟩
  · exact ⟨e.1.1, e.1.2, e.2⟩
  · exact ⟨e.1.1.1, e.1.1.2, e.1.2, e.2⟩
  · obtain ⟨⟨⟨e1, e2⟩, e3⟩, e4⟩ := e
    split at e4
    · simp only [Bool.and_eq_true, decide_eq_true_eq] at e4
      exact ⟨e1, e2, _, by rw [e4.1], e3, e4.2⟩
    · cases e4
  · obtain ⟨⟨⟨e1, e2⟩, e3⟩, e4⟩ := e
    split at e4
    · simp only [Bool.and_eq_true, decide_eq_true_eq] at e4
      exact ⟨e1, e2, _, by rw [e4.1], e3, e4.2⟩
    · cases e4
  · obtain ⟨e1, e4⟩ := e
    split at e4
    · exact ⟨_, rfl, e1, of_decide_eq_true e4⟩
    · cases e4
  · split at e
    · simp only [Bool.and_eq_true, decide_eq_true_eq] at e
      obtain ⟨⟨⟨e1, e2⟩, e3⟩, e4⟩ := e
      exact ⟨_, _, _, _, rfl, e1, e2, e3, swB_ok e4⟩
    · cases e
  · obtain ⟨⟨e1, e2⟩, e4⟩ := e
    split at e4
    · exact ⟨e1, _, rfl, e2, fldB_ok e4⟩
    · cases e4
  · obtain ⟨⟨e1, e2⟩, e4⟩ := e
    split at e4
    · simp only [Bool.and_eq_true] at e4
      obtain ⟨e5, e6⟩ := e4
      split at e6
      · rename_i hc
        exact ⟨e1, _, _, _, _, rfl, e2, fldB_ok e5, hc, of_decide_eq_true e6⟩
      · cases e6
    · cases e4
  · obtain ⟨⟨⟨e1, e2⟩, e3⟩, e4⟩ := e
    split at e4
    · simp only [Bool.and_eq_true] at e4
      obtain ⟨e5, e6⟩ := e4
      split at e6
      · rename_i hc
        simp only [Bool.and_eq_true, decide_eq_true_eq] at e6
        exact ⟨e1, _, _, _, _, rfl, e2, fldB_ok e5, hc, e6.1, e6.2, e3⟩
      · cases e6
    · cases e4
  · obtain ⟨⟨e1, e2⟩, e4⟩ := e
    split at e4
    · split at e4
      · rename_i hc
        exact ⟨e1, _, _, _, _, rfl, e2, hc, atT_ok e4⟩
      · cases e4
    · cases e4
  · obtain ⟨e1, e4⟩ := e
    split at e4
    · simp only [Bool.and_eq_true, beq_iff_eq, decide_eq_true_eq] at e4
      exact ⟨e1, Or.inl ⟨e4.1.1.1, _, rfl, e4.1.1.2, e4.1.2, atT_ok e4.2⟩⟩
    · simp only [Bool.and_eq_true, beq_iff_eq, decide_eq_true_eq] at e4
      obtain ⟨⟨⟨f1, f2⟩, f3⟩, f4⟩ := e4
      split at f4
      · rename_i hc
        exact ⟨e1, Or.inr ⟨f1, f2, _, _, rfl, f3, hc, atT_ok f4⟩⟩
      · cases f4
    · cases e4
  · exact ⟨e.1.1, e.1.2, callB9_ok e.2⟩
  · obtain ⟨⟨e1, e2⟩, e4⟩ := e
    split at e4
    · exact ⟨e1, e2, _, rfl, atT_ok e4⟩
    · cases e4
  · obtain ⟨⟨e1, e2⟩, e4⟩ := e
    split at e4
    · exact ⟨e1, e2, _, rfl, atT_ok e4⟩
    · cases e4
  · exact thrB_ok e
  · exact ⟨e.1.1, e.1.2, e.2⟩
  · obtain ⟨⟨e1, e2⟩, e4⟩ := e
    split at e4
    · rename_i q hq
      simp only [Bool.and_eq_true, Bool.or_eq_true, beq_iff_eq, decide_eq_true_eq] at e4
      obtain ⟨⟨f1, f2⟩, f3⟩ := e4
      refine ⟨e1, q.2.1, q.2.2.1, ?_, e2, f3⟩
      rw [← f1, ← f2]
      exact List.mem_of_getElem? hq
    · cases e4
  · obtain ⟨⟨⟨e1, e2⟩, e3⟩, e4⟩ := e
    split at e4
    · exact ⟨e1, e2, e3, _, rfl, atT_ok e4⟩
    · cases e4
  · exact ⟨e.1, stB_ok e.2⟩
  · obtain ⟨⟨⟨e1, e2⟩, e3⟩, e4⟩ := e
    split at e4
    · exact ⟨e1, e2, e3, _, rfl, atT_ok e4⟩
    · cases e4
  · trivial
  · exact ⟨e.1.1, by decide, by decide, e.1.2, e.2⟩
  · exact ⟨e.1.1, by decide, by decide, e.1.2, e.2⟩
  · exact ⟨e.1.1, by decide, by decide, e.1.2, e.2⟩
  · exact ⟨e.1.1, by decide, by decide, e.1.2, e.2⟩
  · exact ⟨e.1.1, by decide, by decide, e.1.2, e.2⟩
  · exact ⟨e.1.1, by decide, by decide, e.1.2, e.2⟩
  · exact ⟨e.1.1, by decide, by decide, e.1.2, e.2⟩
  · exact ⟨e.1.1, by decide, by decide, e.1.2, e.2⟩
  · exact ⟨e.1.1, by decide, by decide, e.1.2, e.2⟩
  · cases e
def chI (own : String) (cc : ByteArray) (ini : Bool) (pcs : Nat → Nat) (K : List aI) (hs : List Nat) (i : Nat) : Bool := match K[i]?, decode cc (pcs i) with
  | some ins, .ok (J, n) => chJ own cc ini pcs i ins (hs.getD i 0) J n
  | _, _ => false
/-- a method's check -/
def chM (m : Nat) : Bool := (List.range (codeOf m).length).all fun i => chI (yOf m).cls (bytOf m) ((yOf m).name == "<init>") (pcOf m) (codeOf m) (hL.getD m []) i
theorem chM_ok {m : Nat} (h : chM m = true) : ∀ i ins, (codeOf m)[i]? = some ins → OKI (yOf m).cls (bytOf m) ((yOf m).name == "<init>") (pcOf m) i ins := by
  intro i ins hi
  have hl : i < (codeOf m).length := (List.getElem?_eq_some_iff.mp hi).1
  have h1 := List.all_eq_true.mp h i (List.mem_range.mpr hl)
  unfold chI at h1
  rw [hi] at h1
  split at h1
  · rename_i ins' J n h2 h3
    cases h2
    exact ⟨J, n, h3, chJ_ok h1⟩
  · cases h1
/-- a method as a callee -/
def chY (m : Nat) : Bool := let q := mhL.getD m (0, 0, 0, 0)
  atT q.1 (.initialized (yOf m).cls) && atT q.2.1 (codeW m) && decide ((yOf m).cls ≠ "java/lang/invoke/MethodHandle") && decide ((yOf m).cls ≠ "java/lang/invoke/VarHandle") && plainName (yOf m).cls &&
  (match kindOf m with
  | 0 => atT q.2.2.1 (.static (yOf m))
  | 1 => (exwOf m).isEmpty && atT q.2.2.1 (.instanceMethod (yOf m)) && atT q.2.2.2 (.selects (yOf m).cls (yOf m) (yOf m))
  | 2 => (exwOf m).isEmpty && atT q.2.2.1 (.instanceMethod (yOf m)) && decide ((yOf m).name = "<init>") && decide (retOf m = none)
  | _ => false) && decide (mlOf m ≤ 40)
end
section
theorem cm_0 : (List.range 15).all (fun i => chM (i + 0)) = true := by decide +kernel
theorem cm_15 : (List.range 15).all (fun i => chM (i + 15)) = true := by decide +kernel
theorem cm_30 : (List.range 15).all (fun i => chM (i + 30)) = true := by decide +kernel
theorem cm_45 : (List.range 15).all (fun i => chM (i + 45)) = true := by decide +kernel
theorem cm_60 : (List.range 15).all (fun i => chM (i + 60)) = true := by decide +kernel
theorem cm_75 : (List.range 15).all (fun i => chM (i + 75)) = true := by decide +kernel
theorem cm_90 : (List.range 15).all (fun i => chM (i + 90)) = true := by decide +kernel
theorem cm_105 : (List.range 15).all (fun i => chM (i + 105)) = true := by decide +kernel
theorem cm_120 : (List.range 15).all (fun i => chM (i + 120)) = true := by decide +kernel
theorem cm_135 : (List.range 15).all (fun i => chM (i + 135)) = true := by decide +kernel
theorem cm_150 : (List.range 15).all (fun i => chM (i + 150)) = true := by decide +kernel
theorem cm_165 : (List.range 15).all (fun i => chM (i + 165)) = true := by decide +kernel
theorem cm_180 : (List.range 15).all (fun i => chM (i + 180)) = true := by decide +kernel
theorem cm_195 : (List.range 15).all (fun i => chM (i + 195)) = true := by decide +kernel
theorem cm_210 : (List.range 15).all (fun i => chM (i + 210)) = true := by decide +kernel
theorem cm_225 : (List.range 15).all (fun i => chM (i + 225)) = true := by decide +kernel
theorem cm_240 : (List.range 15).all (fun i => chM (i + 240)) = true := by decide +kernel
theorem cm_255 : (List.range 15).all (fun i => chM (i + 255)) = true := by decide +kernel
theorem cm_270 : (List.range 15).all (fun i => chM (i + 270)) = true := by decide +kernel
theorem cm_285 : (List.range 15).all (fun i => chM (i + 285)) = true := by decide +kernel
theorem cm_300 : (List.range 15).all (fun i => chM (i + 300)) = true := by decide +kernel
theorem cm_315 : (List.range 15).all (fun i => chM (i + 315)) = true := by decide +kernel
end
section
theorem cm_330 : (List.range 7).all (fun i => chM (i + 330)) = true := by decide +kernel
theorem cm_337 : (List.range 7).all (fun i => chM (i + 337)) = true := by decide +kernel
def chLw (i : Nat) : Bool := chI RL cL_law false (fun j => p_L_law.getD j 0) k_L_law h_L_law i
end
section
theorem cl_0 : (List.range 40).all (fun i => chLw (i + 0)) = true := by decide +kernel
theorem cl_40 : (List.range 40).all (fun i => chLw (i + 40)) = true := by decide +kernel
theorem cl_80 : (List.range 40).all (fun i => chLw (i + 80)) = true := by decide +kernel
theorem cl_120 : (List.range 40).all (fun i => chLw (i + 120)) = true := by decide +kernel
theorem cl_160 : (List.range 40).all (fun i => chLw (i + 160)) = true := by decide +kernel
end
section
theorem cl_200 : (List.range 40).all (fun i => chLw (i + 200)) = true := by decide +kernel
theorem cl_240 : (List.range 40).all (fun i => chLw (i + 240)) = true := by decide +kernel
theorem cl_280 : (List.range 40).all (fun i => chLw (i + 280)) = true := by decide +kernel
theorem cl_320 : (List.range 40).all (fun i => chLw (i + 320)) = true := by decide +kernel
theorem cl_360 : (List.range 40).all (fun i => chLw (i + 360)) = true := by decide +kernel
end
section
theorem cl_400 : (List.range 40).all (fun i => chLw (i + 400)) = true := by decide +kernel
theorem cl_440 : (List.range 40).all (fun i => chLw (i + 440)) = true := by decide +kernel
theorem cl_480 : (List.range 40).all (fun i => chLw (i + 480)) = true := by decide +kernel
theorem cl_520 : (List.range 40).all (fun i => chLw (i + 520)) = true := by decide +kernel
theorem cl_560 : (List.range 40).all (fun i => chLw (i + 560)) = true := by decide +kernel
end
section
theorem cl_600 : (List.range 40).all (fun i => chLw (i + 600)) = true := by decide +kernel
theorem cl_640 : (List.range 40).all (fun i => chLw (i + 640)) = true := by decide +kernel
theorem cl_680 : (List.range 40).all (fun i => chLw (i + 680)) = true := by decide +kernel
theorem cl_720 : (List.range 40).all (fun i => chLw (i + 720)) = true := by decide +kernel
theorem cl_760 : (List.range 40).all (fun i => chLw (i + 760)) = true := by decide +kernel
end
section
theorem cl_800 : (List.range 40).all (fun i => chLw (i + 800)) = true := by decide +kernel
theorem cl_840 : (List.range 40).all (fun i => chLw (i + 840)) = true := by decide +kernel
theorem cl_880 : (List.range 40).all (fun i => chLw (i + 880)) = true := by decide +kernel
theorem cl_920 : (List.range 40).all (fun i => chLw (i + 920)) = true := by decide +kernel
theorem cl_960 : (List.range 40).all (fun i => chLw (i + 960)) = true := by decide +kernel
end
section
theorem cl_1000 : (List.range 40).all (fun i => chLw (i + 1000)) = true := by decide +kernel
theorem cl_1040 : (List.range 40).all (fun i => chLw (i + 1040)) = true := by decide +kernel
theorem cl_1080 : (List.range 40).all (fun i => chLw (i + 1080)) = true := by decide +kernel
theorem cl_1120 : (List.range 40).all (fun i => chLw (i + 1120)) = true := by decide +kernel
theorem cl_1160 : (List.range 40).all (fun i => chLw (i + 1160)) = true := by decide +kernel
end
section
theorem cl_1200 : (List.range 40).all (fun i => chLw (i + 1200)) = true := by decide +kernel
theorem cl_1240 : (List.range 40).all (fun i => chLw (i + 1240)) = true := by decide +kernel
theorem cl_1280 : (List.range 40).all (fun i => chLw (i + 1280)) = true := by decide +kernel
theorem cl_1320 : (List.range 40).all (fun i => chLw (i + 1320)) = true := by decide +kernel
theorem cl_1360 : (List.range 40).all (fun i => chLw (i + 1360)) = true := by decide +kernel
end
section
theorem cl_1400 : (List.range 40).all (fun i => chLw (i + 1400)) = true := by decide +kernel
theorem cl_1440 : (List.range 40).all (fun i => chLw (i + 1440)) = true := by decide +kernel
theorem cl_1480 : (List.range 40).all (fun i => chLw (i + 1480)) = true := by decide +kernel
theorem cl_1520 : (List.range 40).all (fun i => chLw (i + 1520)) = true := by decide +kernel
theorem cl_1560 : (List.range 40).all (fun i => chLw (i + 1560)) = true := by decide +kernel
end
section
theorem cl_1600 : (List.range 40).all (fun i => chLw (i + 1600)) = true := by decide +kernel
theorem cl_1640 : (List.range 40).all (fun i => chLw (i + 1640)) = true := by decide +kernel
theorem cl_1680 : (List.range 40).all (fun i => chLw (i + 1680)) = true := by decide +kernel
theorem cl_1720 : (List.range 40).all (fun i => chLw (i + 1720)) = true := by decide +kernel
theorem cl_1760 : (List.range 40).all (fun i => chLw (i + 1760)) = true := by decide +kernel
end
section
theorem cl_1800 : (List.range 40).all (fun i => chLw (i + 1800)) = true := by decide +kernel
theorem cl_1840 : (List.range 40).all (fun i => chLw (i + 1840)) = true := by decide +kernel
theorem cl_1880 : (List.range 23).all (fun i => chLw (i + 1880)) = true := by decide +kernel
end
section
/-- a method as a callee -/
def chZ (m : Nat) : Bool := let q := mhL.getD m (0, 0, 0, 0)
  atT q.1 (.initialized (yOf m).cls) && atT q.2.1 (codeW m) && decide ((yOf m).cls ≠ "java/lang/invoke/MethodHandle") && decide ((yOf m).cls ≠ "java/lang/invoke/VarHandle") && plainFor (yOf m) && ((exwOf m).isEmpty || plainName (yOf m).cls) &&
  (match kindOf m with
  | 0 => atT q.2.2.1 (.static (yOf m))
  | 1 => (exwOf m).isEmpty && atT q.2.2.1 (.instanceMethod (yOf m)) && atT q.2.2.2 (.selects (yOf m).cls (yOf m) (yOf m))
  | 2 => (exwOf m).isEmpty && atT q.2.2.1 (.instanceMethod (yOf m)) && decide ((yOf m).name = "<init>") && decide (retOf m = none)
  | _ => false) && decide (mlOf m ≤ 40)
end
section
theorem cy_0 : (List.range 22).all (fun i => chZ (i + 0)) = true := by decide +kernel
theorem cy_22 : (List.range 22).all (fun i => chZ (i + 22)) = true := by decide +kernel
end
section
theorem cy_44 : (List.range 22).all (fun i => chZ (i + 44)) = true := by decide +kernel
theorem cy_66 : (List.range 22).all (fun i => chZ (i + 66)) = true := by decide +kernel
end
section
theorem cy_88 : (List.range 22).all (fun i => chZ (i + 88)) = true := by decide +kernel
theorem cy_110 : (List.range 22).all (fun i => chZ (i + 110)) = true := by decide +kernel
end
section
theorem cy_132 : (List.range 22).all (fun i => chZ (i + 132)) = true := by decide +kernel
theorem cy_154 : (List.range 22).all (fun i => chZ (i + 154)) = true := by decide +kernel
end
section
theorem cy_176 : (List.range 22).all (fun i => chZ (i + 176)) = true := by decide +kernel
theorem cy_198 : (List.range 22).all (fun i => chZ (i + 198)) = true := by decide +kernel
end
section
theorem cy_220 : (List.range 8).all (fun i => chZ (i + 220)) = true := by decide +kernel
theorem cy_228 : (List.range 8).all (fun i => chZ (i + 228)) = true := by decide +kernel
end
section
theorem cy_236 : (List.range 8).all (fun i => chZ (i + 236)) = true := by decide +kernel
theorem cy_244 : (List.range 8).all (fun i => chZ (i + 244)) = true := by decide +kernel
end
section
theorem cy_252 : (List.range 8).all (fun i => chZ (i + 252)) = true := by decide +kernel
theorem cy_260 : (List.range 8).all (fun i => chZ (i + 260)) = true := by decide +kernel
end
section
theorem cy_268 : (List.range 8).all (fun i => chZ (i + 268)) = true := by decide +kernel
theorem cy_276 : (List.range 8).all (fun i => chZ (i + 276)) = true := by decide +kernel
end
section
theorem cy_284 : (List.range 8).all (fun i => chZ (i + 284)) = true := by decide +kernel
theorem cy_292 : (List.range 8).all (fun i => chZ (i + 292)) = true := by decide +kernel
end
section
theorem cy_300 : (List.range 8).all (fun i => chZ (i + 300)) = true := by decide +kernel
theorem cy_308 : (List.range 8).all (fun i => chZ (i + 308)) = true := by decide +kernel
end
section
theorem cy_316 : (List.range 8).all (fun i => chZ (i + 316)) = true := by decide +kernel
theorem cy_324 : (List.range 8).all (fun i => chZ (i + 324)) = true := by decide +kernel
end
section
theorem cy_332 : (List.range 8).all (fun i => chZ (i + 332)) = true := by decide +kernel
theorem cy_340 : (List.range 4).all (fun i => chZ (i + 340)) = true := by decide +kernel
end
section
theorem cm_len : codeL.length = 345 := by decide +kernel
theorem cx_0 : (vx_atS RX10 (icOf 0).2 (exN 0) exSup).all (fun w => decide (w ∈ lw_tbl) && (goodWord w || warmW w) && vx_ot w) = true := by decide +kernel
theorem cx_1 : (vx_atS RX10 (icOf 1).2 (exN 1) exSup).all (fun w => decide (w ∈ lw_tbl) && (goodWord w || warmW w) && vx_ot w) = true := by decide +kernel
theorem cx_2 : (vx_atS RX10 (icOf 2).2 (exN 2) exSup).all (fun w => decide (w ∈ lw_tbl) && (goodWord w || warmW w) && vx_ot w) = true := by decide +kernel
theorem cx_l : [0, 1, 2, 3].all (fun a => decide (Cond.classLink RX10 (icOf a).1 (exN a) ∈ lw_tbl) && decide (Cond.initialized (exN a) ∈ lw_tbl) && decide (Cond.castable (exN a) (exN a) ∈ lw_tbl)) = true := by decide +kernel
end
section
theorem cc_of {f : Nat → Bool} {a n : Nat} (h : (List.range n).all (fun i => f (i + a)) = true) {m : Nat} (h1 : a ≤ m) (h2 : m < a + n) : f m = true := by
  have h3 := List.all_eq_true.mp h (m - a) (List.mem_range.mpr (by omega))
  have h4 : m - a + a = m := by omega
  rw [h4] at h3
  exact h3
theorem cm_all {m : Nat} (h : m < 344) : chM m = true := by
  rcases Nat.lt_or_ge m 15 with h15 | h15
  · exact cc_of cm_0 (by omega) (by omega)
  rcases Nat.lt_or_ge m 30 with h30 | h30
  · exact cc_of cm_15 (by omega) (by omega)
  rcases Nat.lt_or_ge m 45 with h45 | h45
  · exact cc_of cm_30 (by omega) (by omega)
  rcases Nat.lt_or_ge m 60 with h60 | h60
  · exact cc_of cm_45 (by omega) (by omega)
  rcases Nat.lt_or_ge m 75 with h75 | h75
  · exact cc_of cm_60 (by omega) (by omega)
  rcases Nat.lt_or_ge m 90 with h90 | h90
  · exact cc_of cm_75 (by omega) (by omega)
  rcases Nat.lt_or_ge m 105 with h105 | h105
  · exact cc_of cm_90 (by omega) (by omega)
  rcases Nat.lt_or_ge m 120 with h120 | h120
  · exact cc_of cm_105 (by omega) (by omega)
  rcases Nat.lt_or_ge m 135 with h135 | h135
  · exact cc_of cm_120 (by omega) (by omega)
  rcases Nat.lt_or_ge m 150 with h150 | h150
  · exact cc_of cm_135 (by omega) (by omega)
  rcases Nat.lt_or_ge m 165 with h165 | h165
  · exact cc_of cm_150 (by omega) (by omega)
  rcases Nat.lt_or_ge m 180 with h180 | h180
  · exact cc_of cm_165 (by omega) (by omega)
  rcases Nat.lt_or_ge m 195 with h195 | h195
  · exact cc_of cm_180 (by omega) (by omega)
  rcases Nat.lt_or_ge m 210 with h210 | h210
  · exact cc_of cm_195 (by omega) (by omega)
  rcases Nat.lt_or_ge m 225 with h225 | h225
  · exact cc_of cm_210 (by omega) (by omega)
  rcases Nat.lt_or_ge m 240 with h240 | h240
  · exact cc_of cm_225 (by omega) (by omega)
  rcases Nat.lt_or_ge m 255 with h255 | h255
  · exact cc_of cm_240 (by omega) (by omega)
  rcases Nat.lt_or_ge m 270 with h270 | h270
  · exact cc_of cm_255 (by omega) (by omega)
  rcases Nat.lt_or_ge m 285 with h285 | h285
  · exact cc_of cm_270 (by omega) (by omega)
  rcases Nat.lt_or_ge m 300 with h300 | h300
  · exact cc_of cm_285 (by omega) (by omega)
  rcases Nat.lt_or_ge m 315 with h315 | h315
  · exact cc_of cm_300 (by omega) (by omega)
  rcases Nat.lt_or_ge m 330 with h330 | h330
  · exact cc_of cm_315 (by omega) (by omega)
  rcases Nat.lt_or_ge m 337 with h337 | h337
  · exact cc_of cm_330 (by omega) (by omega)
  rcases Nat.lt_or_ge m 344 with h344 | h344
  · exact cc_of cm_337 (by omega) (by omega)
  omega
theorem cl_all {m : Nat} (h : m < 1903) : chLw m = true := by
  rcases Nat.lt_or_ge m 40 with h40 | h40
  · exact cc_of cl_0 (by omega) (by omega)
  rcases Nat.lt_or_ge m 80 with h80 | h80
  · exact cc_of cl_40 (by omega) (by omega)
  rcases Nat.lt_or_ge m 120 with h120 | h120
  · exact cc_of cl_80 (by omega) (by omega)
  rcases Nat.lt_or_ge m 160 with h160 | h160
  · exact cc_of cl_120 (by omega) (by omega)
  rcases Nat.lt_or_ge m 200 with h200 | h200
  · exact cc_of cl_160 (by omega) (by omega)
  rcases Nat.lt_or_ge m 240 with h240 | h240
  · exact cc_of cl_200 (by omega) (by omega)
  rcases Nat.lt_or_ge m 280 with h280 | h280
  · exact cc_of cl_240 (by omega) (by omega)
  rcases Nat.lt_or_ge m 320 with h320 | h320
  · exact cc_of cl_280 (by omega) (by omega)
  rcases Nat.lt_or_ge m 360 with h360 | h360
  · exact cc_of cl_320 (by omega) (by omega)
  rcases Nat.lt_or_ge m 400 with h400 | h400
  · exact cc_of cl_360 (by omega) (by omega)
  rcases Nat.lt_or_ge m 440 with h440 | h440
  · exact cc_of cl_400 (by omega) (by omega)
  rcases Nat.lt_or_ge m 480 with h480 | h480
  · exact cc_of cl_440 (by omega) (by omega)
  rcases Nat.lt_or_ge m 520 with h520 | h520
  · exact cc_of cl_480 (by omega) (by omega)
  rcases Nat.lt_or_ge m 560 with h560 | h560
  · exact cc_of cl_520 (by omega) (by omega)
  rcases Nat.lt_or_ge m 600 with h600 | h600
  · exact cc_of cl_560 (by omega) (by omega)
  rcases Nat.lt_or_ge m 640 with h640 | h640
  · exact cc_of cl_600 (by omega) (by omega)
  rcases Nat.lt_or_ge m 680 with h680 | h680
  · exact cc_of cl_640 (by omega) (by omega)
  rcases Nat.lt_or_ge m 720 with h720 | h720
  · exact cc_of cl_680 (by omega) (by omega)
  rcases Nat.lt_or_ge m 760 with h760 | h760
  · exact cc_of cl_720 (by omega) (by omega)
  rcases Nat.lt_or_ge m 800 with h800 | h800
  · exact cc_of cl_760 (by omega) (by omega)
  rcases Nat.lt_or_ge m 840 with h840 | h840
  · exact cc_of cl_800 (by omega) (by omega)
  rcases Nat.lt_or_ge m 880 with h880 | h880
  · exact cc_of cl_840 (by omega) (by omega)
  rcases Nat.lt_or_ge m 920 with h920 | h920
  · exact cc_of cl_880 (by omega) (by omega)
  rcases Nat.lt_or_ge m 960 with h960 | h960
  · exact cc_of cl_920 (by omega) (by omega)
  rcases Nat.lt_or_ge m 1000 with h1000 | h1000
  · exact cc_of cl_960 (by omega) (by omega)
  rcases Nat.lt_or_ge m 1040 with h1040 | h1040
  · exact cc_of cl_1000 (by omega) (by omega)
  rcases Nat.lt_or_ge m 1080 with h1080 | h1080
  · exact cc_of cl_1040 (by omega) (by omega)
  rcases Nat.lt_or_ge m 1120 with h1120 | h1120
  · exact cc_of cl_1080 (by omega) (by omega)
  rcases Nat.lt_or_ge m 1160 with h1160 | h1160
  · exact cc_of cl_1120 (by omega) (by omega)
  rcases Nat.lt_or_ge m 1200 with h1200 | h1200
  · exact cc_of cl_1160 (by omega) (by omega)
  rcases Nat.lt_or_ge m 1240 with h1240 | h1240
  · exact cc_of cl_1200 (by omega) (by omega)
  rcases Nat.lt_or_ge m 1280 with h1280 | h1280
  · exact cc_of cl_1240 (by omega) (by omega)
  rcases Nat.lt_or_ge m 1320 with h1320 | h1320
  · exact cc_of cl_1280 (by omega) (by omega)
  rcases Nat.lt_or_ge m 1360 with h1360 | h1360
  · exact cc_of cl_1320 (by omega) (by omega)
  rcases Nat.lt_or_ge m 1400 with h1400 | h1400
  · exact cc_of cl_1360 (by omega) (by omega)
  rcases Nat.lt_or_ge m 1440 with h1440 | h1440
  · exact cc_of cl_1400 (by omega) (by omega)
  rcases Nat.lt_or_ge m 1480 with h1480 | h1480
  · exact cc_of cl_1440 (by omega) (by omega)
  rcases Nat.lt_or_ge m 1520 with h1520 | h1520
  · exact cc_of cl_1480 (by omega) (by omega)
  rcases Nat.lt_or_ge m 1560 with h1560 | h1560
  · exact cc_of cl_1520 (by omega) (by omega)
  rcases Nat.lt_or_ge m 1600 with h1600 | h1600
  · exact cc_of cl_1560 (by omega) (by omega)
  rcases Nat.lt_or_ge m 1640 with h1640 | h1640
  · exact cc_of cl_1600 (by omega) (by omega)
  rcases Nat.lt_or_ge m 1680 with h1680 | h1680
  · exact cc_of cl_1640 (by omega) (by omega)
  rcases Nat.lt_or_ge m 1720 with h1720 | h1720
  · exact cc_of cl_1680 (by omega) (by omega)
  rcases Nat.lt_or_ge m 1760 with h1760 | h1760
  · exact cc_of cl_1720 (by omega) (by omega)
  rcases Nat.lt_or_ge m 1800 with h1800 | h1800
  · exact cc_of cl_1760 (by omega) (by omega)
  rcases Nat.lt_or_ge m 1840 with h1840 | h1840
  · exact cc_of cl_1800 (by omega) (by omega)
  rcases Nat.lt_or_ge m 1880 with h1880 | h1880
  · exact cc_of cl_1840 (by omega) (by omega)
  rcases Nat.lt_or_ge m 1903 with h1903 | h1903
  · exact cc_of cl_1880 (by omega) (by omega)
  omega
theorem cy_all {m : Nat} (h : m < 344) : chZ m = true := by
  rcases Nat.lt_or_ge m 22 with h22 | h22
  · exact cc_of cy_0 (by omega) (by omega)
  rcases Nat.lt_or_ge m 44 with h44 | h44
  · exact cc_of cy_22 (by omega) (by omega)
  rcases Nat.lt_or_ge m 66 with h66 | h66
  · exact cc_of cy_44 (by omega) (by omega)
  rcases Nat.lt_or_ge m 88 with h88 | h88
  · exact cc_of cy_66 (by omega) (by omega)
  rcases Nat.lt_or_ge m 110 with h110 | h110
  · exact cc_of cy_88 (by omega) (by omega)
  rcases Nat.lt_or_ge m 132 with h132 | h132
  · exact cc_of cy_110 (by omega) (by omega)
  rcases Nat.lt_or_ge m 154 with h154 | h154
  · exact cc_of cy_132 (by omega) (by omega)
  rcases Nat.lt_or_ge m 176 with h176 | h176
  · exact cc_of cy_154 (by omega) (by omega)
  rcases Nat.lt_or_ge m 198 with h198 | h198
  · exact cc_of cy_176 (by omega) (by omega)
  rcases Nat.lt_or_ge m 220 with h220 | h220
  · exact cc_of cy_198 (by omega) (by omega)
  rcases Nat.lt_or_ge m 228 with h228 | h228
  · exact cc_of cy_220 (by omega) (by omega)
  rcases Nat.lt_or_ge m 236 with h236 | h236
  · exact cc_of cy_228 (by omega) (by omega)
  rcases Nat.lt_or_ge m 244 with h244 | h244
  · exact cc_of cy_236 (by omega) (by omega)
  rcases Nat.lt_or_ge m 252 with h252 | h252
  · exact cc_of cy_244 (by omega) (by omega)
  rcases Nat.lt_or_ge m 260 with h260 | h260
  · exact cc_of cy_252 (by omega) (by omega)
  rcases Nat.lt_or_ge m 268 with h268 | h268
  · exact cc_of cy_260 (by omega) (by omega)
  rcases Nat.lt_or_ge m 276 with h276 | h276
  · exact cc_of cy_268 (by omega) (by omega)
  rcases Nat.lt_or_ge m 284 with h284 | h284
  · exact cc_of cy_276 (by omega) (by omega)
  rcases Nat.lt_or_ge m 292 with h292 | h292
  · exact cc_of cy_284 (by omega) (by omega)
  rcases Nat.lt_or_ge m 300 with h300 | h300
  · exact cc_of cy_292 (by omega) (by omega)
  rcases Nat.lt_or_ge m 308 with h308 | h308
  · exact cc_of cy_300 (by omega) (by omega)
  rcases Nat.lt_or_ge m 316 with h316 | h316
  · exact cc_of cy_308 (by omega) (by omega)
  rcases Nat.lt_or_ge m 324 with h324 | h324
  · exact cc_of cy_316 (by omega) (by omega)
  rcases Nat.lt_or_ge m 332 with h332 | h332
  · exact cc_of cy_324 (by omega) (by omega)
  rcases Nat.lt_or_ge m 340 with h340 | h340
  · exact cc_of cy_332 (by omega) (by omega)
  rcases Nat.lt_or_ge m 344 with h344 | h344
  · exact cc_of cy_340 (by omega) (by omega)
  omega
end
section
/-! the abstract machine itself -/
def binI (b : Nat) (x y : Int32) : Int32 := match b with
  | 0 => x + y
  | 1 => x - y
  | 2 => x * y
  | 3 => x &&& y
  | 4 => x ||| y
  | 5 => x ^^^ y
  | 6 => x <<< (y &&& 31)
  | _ => x >>> (y &&& 31)
def dvI (b : Nat) (x y : Int32) : Int32 := match b with
  | 0 => x / y
  | _ => x - x / y * y
def binL (b : Nat) (x y : Int64) : Int64 := match b with
  | 0 => x + y
  | 1 => x - y
  | 2 => x * y
  | _ => x ||| y
def dvL (b : Nat) (x y : Int64) : Int64 := match b with
  | 0 => x / y
  | _ => x - x / y * y
def cmpI (b : Nat) (x y : Int32) : Prop := match b with
  | 0 => x = y
  | 1 => ¬ x = y
  | 2 => x < y
  | 3 => y ≤ x
  | 4 => y < x
  | _ => x ≤ y
def kindV : Value → Nat
  | .int _ => 0
  | .ref _ => 1
  | .long _ => 2
  | _ => 9
def clr (lo : List (Option Value)) (a : Nat) : List (Option Value) := match a with
  | 0 => lo
  | k + 1 => match lo[k]? with
    | some (some v) => if v.category = 2 then lo.set k none else lo
    | _ => lo
def setL (lo : List (Option Value)) (a : Nat) (v : Value) : List (Option Value) := match v with
  | .long _ => ((clr lo a).set a (some v)).set (a + 1) none
  | _ => (clr lo a).set a (some v)
def flL (vs : List Value) : List (Option Value) := vs.flatMap fun v => if v.category = 2 then [some v, none] else [some v]
def entL (vs : List Value) (n : Nat) : List (Option Value) := flL vs ++ List.replicate (n - (flL vs).length) none
def stW (st : List Value) : Nat := (st.map fun v => v.category).sum
/-- fixed rows: number, kind (place in tyT), length, contents -/
def faOf (g : (Nat → Option (Nat × Nat × (Nat → Int32))) × (Nat → Value)) (id : Nat) : Option (Nat × Nat × (Nat → Int32)) := if id < FB then none else g.1 (id - FB)
/-- a row of ints in the world or outside, of kind t -/
def rdA (g : (Nat → Option (Nat × Nat × (Nat → Int32))) × (Nat → Value)) (w : aW) (id t n : Nat) (f : Nat → Int32) : Prop := aAt w id (.inl (t, n, .inl f)) ∨ (FB ≤ id ∧ g.1 (id - FB) = some (t, n, f))
def hndA (hs : List (Nat × Nat × Nat × String)) (E : String) (i : Nat) : Option Nat := match hs with
  | [] => none
  | (a, b, h, n) :: r => if a ≤ i ∧ i < b ∧ n = E then some h else hndA r E i
abbrev aG : Type := (Nat → Option (Nat × Nat × (Nat → Int32))) × (Nat → Value)
abbrev aK : Type := aW → Nat → Nat → Nat → List (Option Value) → List Value → Prop
section MACH
variable (g : aG) (mb : Nat → Nat × Nat) (cs : aS) (I : aInfo) (K : List aI) (k : aK) (Qr : Option Value → aW → Prop) (Qx : String → aW → Prop)
def opLd (a b : Nat) (w : aW) (uc us i : Nat) (lo : List (Option Value)) (st : List Value) : Prop := ∃ v, lo[a]? = some (some v) ∧ kindV v = b ∧ k w uc us (i + 1) lo (v :: st)
def opSt (a b : Nat) (w : aW) (uc us i : Nat) (lo : List (Option Value)) (st : List Value) : Prop := match st with
  | v :: r => kindV v = b ∧ a < lo.length ∧ (b = 2 → a + 1 < lo.length) ∧ k w uc us (i + 1) (setL lo a v) r
  | _ => False
def opInc (a : Nat) (v : Value) (w : aW) (uc us i : Nat) (lo : List (Option Value)) (st : List Value) : Prop := match v with
  | .int n => ∃ x, lo[a]? = some (some (.int x)) ∧ k w uc us (i + 1) (setL lo a (.int (x + n))) st
  | _ => False
def opBin (b : Nat) (w : aW) (uc us i : Nat) (lo : List (Option Value)) (st : List Value) : Prop := match st with
  | .int y :: .int x :: r => k w uc us (i + 1) lo (.int (binI b x y) :: r)
  | _ => False
def opDv (b : Nat) (w : aW) (uc us i : Nat) (lo : List (Option Value)) (st : List Value) : Prop := match st with
  | .int y :: .int x :: r => ¬ y = 0 ∧ k w uc us (i + 1) lo (.int (dvI b x y) :: r)
  | _ => False
def opUn (b : Nat) (w : aW) (uc us i : Nat) (lo : List (Option Value)) (st : List Value) : Prop := match st with
  | .int x :: r => k w uc us (i + 1) lo ((match b with
    | 0 => .long x.toInt64
    | 1 => .int x.toInt8.toInt32
    | 2 => .int (x.toUInt32 % 65536).toInt32
    | _ => .int (-x)) :: r)
  | _ => False
def opBinL (b : Nat) (w : aW) (uc us i : Nat) (lo : List (Option Value)) (st : List Value) : Prop := match st with
  | .long y :: .long x :: r => k w uc us (i + 1) lo (.long (binL b x y) :: r)
  | _ => False
def opDvL (b : Nat) (w : aW) (uc us i : Nat) (lo : List (Option Value)) (st : List Value) : Prop := match st with
  | .long y :: .long x :: r => ¬ y = 0 ∧ k w uc us (i + 1) lo (.long (dvL b x y) :: r)
  | _ => False
def opCmL (w : aW) (uc us i : Nat) (lo : List (Option Value)) (st : List Value) : Prop := match st with
  | .long y :: .long x :: r => k w uc us (i + 1) lo (.int (lg_cmp x y) :: r)
  | _ => False
def opShL (w : aW) (uc us i : Nat) (lo : List (Option Value)) (st : List Value) : Prop := match st with
  | .int y :: .long x :: r => k w uc us (i + 1) lo (.long (x <<< (y.toInt64 &&& 63)) :: r)
  | _ => False
def opDup (b : Nat) (w : aW) (uc us i : Nat) (lo : List (Option Value)) (st : List Value) : Prop := match b, st with
  | 0, v :: r => v.category = 1 ∧ k w uc us (i + 1) lo (v :: v :: r)
  | 1, v :: u :: r => v.category = 1 ∧ u.category = 1 ∧ k w uc us (i + 1) lo (v :: u :: v :: u :: r)
  | 2, v :: r => v.category = 1 ∧ k w uc us (i + 1) lo r
  | _, _ => False
def opIf (a b : Nat) (w : aW) (uc us i : Nat) (lo : List (Option Value)) (st : List Value) : Prop := match st with
  | .int x :: r => (cmpI b x 0 → k w uc us a lo r) ∧ (¬ cmpI b x 0 → k w uc us (i + 1) lo r)
  | _ => False
def opCmp (a b : Nat) (w : aW) (uc us i : Nat) (lo : List (Option Value)) (st : List Value) : Prop := match st with
  | .int y :: .int x :: r => (cmpI b x y → k w uc us a lo r) ∧ (¬ cmpI b x y → k w uc us (i + 1) lo r)
  | _ => False
def opSw (a b : Nat) (l : List Nat) (w : aW) (uc us : Nat) (lo : List (Option Value)) (st : List Value) : Prop := match st with
  | .int x :: r => ((x.toInt < b ∨ b + l.length ≤ x.toInt) → k w uc us a lo r) ∧ ∀ (j t : Nat), l[j]? = some t → x.toInt = b + j → k w uc us t lo r
  | _ => False
def opGet (a b : Nat) (w : aW) (uc us i : Nat) (lo : List (Option Value)) (st : List Value) : Prop := match st with
  | .ref q :: r => ∃ fs v, aAt w q (.inr (a, fs)) ∧ fs[b]? = some v ∧ k w uc us (i + 1) lo (v :: r)
  | _ => False
def opPut (a b : Nat) (ty : FieldType) (w : aW) (uc us i : Nat) (lo : List (Option Value)) (st : List Value) : Prop := match st with
  | v :: .ref q :: r => ∃ fs, aAt w q (.inr (a, fs)) ∧ b < fs.length ∧ narrow ty v = v ∧ fits ty v = true ∧ k (aUp w q (.inr (a, fs.set b v))) uc us (i + 1) lo r
  | _ => False
def opGetS (b : Nat) (w : aW) (uc us i : Nat) (lo : List (Option Value)) (st : List Value) : Prop := match st with
  | .ref q :: r => FB ≤ q ∧ q < FB + 100 ∧ (g.1 (q - FB + 100)).isSome = true ∧ k w uc us (i + 1) lo ((match b with
    | 0 => .ref (q + 100)
    | _ => .int 0) :: r)
  | _ => False
def opLen (w : aW) (uc us i : Nat) (lo : List (Option Value)) (st : List Value) : Prop := match st with
  | .ref q :: r => ∃ n, ((∃ t a, aAt w q (.inl (t, n, a)) ∧ t < nTy) ∨ (∃ t f, FB ≤ q ∧ g.1 (q - FB) = some (t, n, f))) ∧ k w uc us (i + 1) lo (.int (Int32.ofNat n) :: r)
  | _ => False
def opILd (b : Nat) (w : aW) (uc us i : Nat) (lo : List (Option Value)) (st : List Value) : Prop := match st with
  | .int j :: .ref q :: r => ∃ t n f, rdA g w q t n f ∧ (if b = 0 then t = 0 else t = 2 ∨ t = 3) ∧ vp_in j n ∧ k w uc us (i + 1) lo (.int (f j.toNatClampNeg) :: r)
  | _ => False
def opISt (b : Nat) (w : aW) (uc us i : Nat) (lo : List (Option Value)) (st : List Value) : Prop := match st with
  | .int x :: .int j :: .ref q :: r => ∃ t n f, aAt w q (.inl (t, n, .inl f)) ∧ (if b = 0 then t = 0 else t = 2 ∨ t = 3) ∧ vp_in j n ∧ k (aUp w q (.inl (t, n, .inl (upd f j.toNatClampNeg (if b = 0 then x else vp_nar (tyT t) x))))) uc us (i + 1) lo r
  | _ => False
def opLLd (w : aW) (uc us i : Nat) (lo : List (Option Value)) (st : List Value) : Prop := match st with
  | .int j :: .ref q :: r => ∃ n f, aAt w q (.inl (1, n, .inr (.inl f))) ∧ vp_in j n ∧ k w uc us (i + 1) lo (.long (f j.toNatClampNeg) :: r)
  | _ => False
def opLSt (w : aW) (uc us i : Nat) (lo : List (Option Value)) (st : List Value) : Prop := match st with
  | .long x :: .int j :: .ref q :: r => ∃ n f, aAt w q (.inl (1, n, .inr (.inl f))) ∧ vp_in j n ∧ k (aUp w q (.inl (1, n, .inr (.inl (vp_updL f j.toNatClampNeg x))))) uc us (i + 1) lo r
  | _ => False
def opALd (w : aW) (uc us i : Nat) (lo : List (Option Value)) (st : List Value) : Prop := match st with
  | .int j :: .ref q :: r => ∃ t n f y, aAt w q (.inl (t, n, .inr (.inr (.inr (.inr f))))) ∧ (4 ≤ t ∧ t < nTy) ∧ vp_in j n ∧ f j.toNatClampNeg = some y ∧ k w uc us (i + 1) lo (.ref y :: r)
  | _ => False
def opASt (w : aW) (uc us i : Nat) (lo : List (Option Value)) (st : List Value) : Prop := match st with
  | .ref y :: .int j :: .ref q :: r => ∃ t n f ci vs C, aAt w q (.inl (t, n, .inr (.inr (.inr (.inr f))))) ∧ (4 ≤ t ∧ t < nTy) ∧ tyT t = .object C ∧ (vwCl[ci]?).map (fun x => x.1) = some C ∧ aAt w y (.inr (ci, vs)) ∧ vp_in j n ∧ k (aUp w q (.inl (t, n, .inr (.inr (.inr (.inr (va_up f j.toNatClampNeg (some y)))))))) uc us (i + 1) lo r
  | _ => False
def opNew (nb a b : Nat) (fs : List Value) (w : aW) (uc us i : Nat) (lo : List (Option Value)) (st : List Value) : Prop := w.1 < N0 ∧ w.1 = nb + uc ∧ uc + 1 ≤ I.1 ∧ us + b ≤ I.2.1 ∧ k (aNew w (.inr (a, fs))) (uc + 1) (us + b) (i + 1) lo (.ref w.1 :: st)
def opNewA (nb t : Nat) (w : aW) (uc us i : Nat) (lo : List (Option Value)) (st : List Value) : Prop := match st with
  | .int z :: r => ¬ z < 0 ∧ z.toNatClampNeg ≤ 1000000 ∧ w.1 < N0 ∧ w.1 = nb + uc ∧ uc + 1 ≤ I.1 ∧ us + z.toNatClampNeg ≤ I.2.1 ∧ k (aNew w (.inl (t, z.toNatClampNeg, match t with
    | 0 => .inl (fun _ => 0)
    | 1 => .inr (.inl (fun _ => 0))
    | 2 => .inl (fun _ => 0)
    | 3 => .inl (fun _ => 0)
    | _ => .inr (.inr (.inr (.inr (fun _ => none))))))) (uc + 1) (us + z.toNatClampNeg) (i + 1) lo (.ref w.1 :: r)
  | _ => False
def rcvA (l : List Nat) (w : aW) (as : List Value) : Prop := match l, as with
  | [], _ => True
  | ci :: _, .ref q :: _ => if ci = 99 then FB ≤ q ∧ q < FB + 100 ∧ (g.1 (q - FB + 100)).isSome = true else if ci = 100 then True else ∃ fs, aAt w q (.inr (ci, fs))
  | _, _ => False
def opInv (nb mid n : Nat) (l : List Nat) (w : aW) (uc us i : Nat) (lo : List (Option Value)) (st : List Value) : Prop := n ≤ st.length ∧ stW (st.drop n) ≤ 8 ∧ (w.1 = N0 ∨ w.1 = nb + uc) ∧ rcvA g l w (st.take n).reverse ∧ uc + (mb mid).1 ≤ I.1 ∧ us + (mb mid).2 ≤ I.2.1 ∧
  cs mid (st.take n).reverse w (fun v w' => k w' (uc + (mb mid).1) (us + (mb mid).2) (i + 1) lo (v.toList ++ st.drop n))
    (fun E w' => match hndA I.2.2.2 E i with
      | some h => ∃ a vv ll, K[h]? = some (45, a, 0, vv, ll) ∧ a < lo.length ∧ k w' (uc + (mb mid).1) (us + (mb mid).2) (h + 1) ((clr lo a).set a none) []
      | none => I.2.2.2 = [] ∧ Qx E w')
def opCpy (w : aW) (uc us i : Nat) (lo : List (Option Value)) (st : List Value) : Prop := match st with
  | .int n :: .int dp :: .ref q1 :: .int sp :: .ref q0 :: r => ∃ n0 f n1 f1, aAt w q0 (.inl (0, n0, .inl f)) ∧ aAt w q1 (.inl (0, n1, .inl f1)) ∧ stW r ≤ 8 ∧ ¬ sp < 0 ∧ ¬ dp < 0 ∧ ¬ n < 0 ∧ sp.toNatClampNeg + n.toNatClampNeg ≤ n0 ∧ dp.toNatClampNeg + n.toNatClampNeg ≤ n1 ∧
      k (aUp w q1 (.inl (0, n1, .inl (va_cpy f f1 sp.toNatClampNeg dp.toNatClampNeg n.toNatClampNeg)))) uc us (i + 1) lo r
  | _ => False
def opObj (w : aW) (uc us i : Nat) (lo : List (Option Value)) (st : List Value) : Prop := match st with
  | .ref _ :: r => stW r ≤ 8 ∧ k w uc us (i + 1) lo r
  | _ => False
def opThr (a : Nat) (w : aW) (uc us : Nat) (st : List Value) : Prop := w.1 = N0 ∧ I.2.2.2 = [] ∧ stW st ≤ 8 ∧ uc + 1 ≤ I.1 ∧ us + 6 ≤ I.2.1 ∧ Qx (exN a) w
def opRet (b : Nat) (w : aW) (uc us : Nat) (st : List Value) : Prop := uc ≤ I.1 ∧ us ≤ I.2.1 ∧ match b, st with
  | 0, [.int x] => (∃ ty, I.2.2.1 = some ty ∧ narrow ty (.int x) = .int x ∧ refKind ty = false ∧ ty ≠ .long) ∧ Qr (some (.int x)) w
  | 1, [.ref q] => (∃ C, I.2.2.1 = some (.object C)) ∧ Qr (some (.ref q)) w
  | 2, [.long x] => I.2.2.1 = some .long ∧ Qr (some (.long x)) w
  | 3, [] => I.2.2.1 = none ∧ Qr none w
  | _, _ => False
/-- the type of a field of a class -/
def ftyA (a b : Nat) : FieldType := match a with
  | 0 => tyX0 b
  | 1 => tyX1 b
  | 2 => tyX2 b
  | 3 => tyX3 b
  | 4 => tyX4 b
  | 5 => tyX5 b
  | 6 => tyX6 b
  | 7 => tyX7 b
  | 8 => tyX8 b
  | 9 => tyX9 b
  | 10 => tyX10 b
  | _ => tyX11 b
def nfA (a : Nat) : Nat := ((vwCl[a]?).map fun x => x.2.2).getD 0
def dfA (a : Nat) : List Value := (List.range (nfA a)).map fun b => defaultValue (ftyA a b)
def opS (nb : Nat) (ins : aI) (w : aW) (uc us i : Nat) (lo : List (Option Value)) (st : List Value) : Prop :=
  let a := ins.2.1
  let b := ins.2.2.1
  match ins.1 with
  | 0 => opLd k a b w uc us i lo st
  | 1 => opSt k a b w uc us i lo st
  | 2 => k w uc us (i + 1) lo (ins.2.2.2.1 :: st)
  | 3 => opInc k a ins.2.2.2.1 w uc us i lo st
  | 4 => opBin k b w uc us i lo st
  | 5 => opDv k b w uc us i lo st
  | 6 => opUn k b w uc us i lo st
  | 8 => opBinL k b w uc us i lo st
  | 9 => opDvL k b w uc us i lo st
  | 10 => opCmL k w uc us i lo st
  | 11 => opShL k w uc us i lo st
  | 12 => opDup k b w uc us i lo st
  | 15 => opIf k a b w uc us i lo st
  | 16 => opCmp k a b w uc us i lo st
  | 17 => k w uc us a lo st
  | 18 => opSw k a b ins.2.2.2.2 w uc us lo st
  | 19 => opGet k a b w uc us i lo st
  | 20 => opPut k a b (ftyA a b) w uc us i lo st
  | 21 => opPut k a b (ftyA a b) w uc us i lo st
  | 22 => opLen g k w uc us i lo st
  | 23 => opILd g k 0 w uc us i lo st
  | 24 => opISt k 0 w uc us i lo st
  | 25 => opILd g k 1 w uc us i lo st
  | 26 => opISt k 1 w uc us i lo st
  | 27 => opLLd k w uc us i lo st
  | 28 => opLSt k w uc us i lo st
  | 29 => opALd k w uc us i lo st
  | 30 => opASt k w uc us i lo st
  | 31 => opNew I k nb a (nfA a) (dfA a) w uc us i lo st
  | 32 => opNewA I k nb a w uc us i lo st
  | 34 => opInv g mb cs I K k Qx nb a b ins.2.2.2.2 w uc us i lo st
  | 36 => opCpy k w uc us i lo st
  | 37 => opObj k w uc us i lo st
  | 38 => opThr I Qx a w uc us st
  | 39 => opRet I Qr b w uc us st
  | 40 => k w uc us (i + 1) lo (.ref (FB + a) :: st)
  | 43 => k w uc us (i + 1) lo (g.2 a :: st)
  | 46 => opGetS g k b w uc us i lo st
  | _ => False
/-- the least set of states that is closed under going back a step: total runs -/
def EX (nb : Nat) (w : aW) (uc us i : Nat) (lo : List (Option Value)) (st : List Value) : Prop :=
  ∀ k : aK, (∀ w uc us i lo st ins, K[i]? = some ins → opS g mb cs I K k Qr Qx nb ins w uc us i lo st → k w uc us i lo st) → k w uc us i lo st
end MACH
/-- methods, so many calls deep at most -/
def Ev (g : aG) : Nat → aS
  | 0 => fun _ _ _ _ _ => False
  | d + 1 => fun mid av w Qr Qx => mid < 344 ∧ (flL av).length ≤ mlOf mid ∧ EX g mbOf (Ev g d) (infoOf mid) (codeOf mid) Qr Qx w.1 w 0 0 0 (entL av (mlOf mid)) []
end
section
/-! soundness: the worlds of the abstract machine in the heap -/
abbrev aP : Type := va_G × (Nat → Nat) × Nat × (Nat → Nat) × aG
def adr (sz0 : Nat) (fx : Nat → Nat) (i : Nat) : Nat := if i < FB then sz0 + i else fx (i - FB)
def Pad (π : aP) : Nat → Nat := adr π.2.2.1 π.2.2.2.1
def PA (π : aP) : Nat → Prop := fun q => π.2.2.1 ≤ q
def tV (ad : Nat → Nat) : Value → Value
  | .ref i => .ref (ad i)
  | v => v
def tE (ad : Nat → Nat) (cA : Nat → Nat) : va_E → va_E
  | .inl (t, n, .inl f) => .inl (cA t, n, .inl f)
  | .inl (t, n, .inr (.inl f)) => .inl (cA t, n, .inr (.inl f))
  | .inl (t, n, .inr (.inr (.inl f))) => .inl (cA t, n, .inr (.inr (.inl f)))
  | .inl (t, n, .inr (.inr (.inr (.inl f)))) => .inl (cA t, n, .inr (.inr (.inr (.inl f))))
  | .inl (t, n, .inr (.inr (.inr (.inr f)))) => .inl (cA t, n, .inr (.inr (.inr (.inr (fun j => (f j).map ad)))))
  | .inr (ci, fs) => .inr (ci, fs.map (tV ad))
def wl (π : aP) (w : aW) : va_W := (List.range w.1).map fun i => (Pad π i, tE (Pad π) π.2.1 (w.2 i))
def tysL (π : aP) : List (ClassId × FieldType) := (List.range nTy).map fun t => (π.2.1 t, tyT t)
theorem wl_get {π : aP} {w : aW} {i : Nat} {e : va_E} (h : aAt w i e) : (wl π w)[i]? = some (Pad π i, tE (Pad π) π.2.1 e) := by
  obtain ⟨h1, h2⟩ := h
  simp [wl, List.getElem?_map, List.getElem?_range h1, h2]
theorem tys_get {π : aP} {t : Nat} (h : t < nTy) : (tysL π)[t]? = some (π.2.1 t, tyT t) := by
  simp [tysL, List.getElem?_map, List.getElem?_range h]
theorem wl_up {π : aP} {w : aW} {i : Nat} {e : va_E} : (wl π w).set i (Pad π i, tE (Pad π) π.2.1 e) = wl π (aUp w i e) := by
  apply List.ext_getElem?
  intro j
  by_cases hj : j < w.1
  · by_cases he : i = j
    · subst he
      simp [wl, aUp, va_up, List.getElem?_map, List.getElem?_range hj, hj]
    · have he2 : ¬ j = i := fun h => he h.symm
      simp [wl, aUp, va_up, List.getElem?_set, List.getElem?_map, List.getElem?_range hj, he, he2]
  · have h1 : (wl π (aUp w i e))[j]? = none := by simp [wl, aUp]; omega
    rw [h1]
    simp [wl]; omega
theorem wl_new {π : aP} {w : aW} {e : va_E} : wl π w ++ [(Pad π w.1, tE (Pad π) π.2.1 e)] = wl π (aNew w e) := by
  have h : (List.range w.1).map (fun i => (Pad π i, tE (Pad π) π.2.1 (w.2 i))) = (List.range w.1).map (fun i => (Pad π i, tE (Pad π) π.2.1 (va_up w.2 w.1 e i))) := by
    apply List.map_congr_left
    intro i hi
    have h2 : ¬ i = w.1 := Nat.ne_of_lt (List.mem_range.mp hi)
    simp [va_up, h2]
  show (List.range w.1).map _ ++ _ = (List.range (w.1 + 1)).map _
  rw [List.range_succ, List.map_append, h]
  simp [aNew, va_up]
theorem wl_len {π : aP} {w : aW} : (wl π w).length = w.1 := by simp [wl]
theorem Pad_lo {π : aP} {i : Nat} (h : i < FB) : Pad π i = π.2.2.1 + i := by simp [Pad, adr, h]
theorem Pad_hi {π : aP} {k : Nat} : Pad π (FB + k) = π.2.2.2.1 k := by
  have h : ¬ FB + k < FB := by omega
  unfold Pad adr
  rw [if_neg h, Nat.add_sub_cancel_left]
/-- locals -/
def LH (π : aP) (ls : Array Slot) (nL : Nat) (lo : List (Option Value)) : Prop := ls.size = nL ∧ lo.length = nL ∧ lv_wf ls ∧ ∀ (j : Nat) (v : Value), lo[j]? = some (some v) → ls[j]? = some (.val (tV (Pad π) v))
def prs (π : aP) (nL : Nat) (lo : List (Option Value)) : List (Nat × Value) := (List.range nL).filterMap fun j => match lo[j]? with
  | some (some v) => some (j, tV (Pad π) v)
  | _ => none
theorem prs_mem {π : aP} {nL : Nat} {lo : List (Option Value)} {q : Nat × Value} : q ∈ prs π nL lo ↔ q.1 < nL ∧ ∃ v, lo[q.1]? = some (some v) ∧ q.2 = tV (Pad π) v := by
  obtain ⟨j, x⟩ := q
  simp only [prs, List.mem_filterMap, List.mem_range]
  constructor
  · rintro ⟨k, hk, h⟩
    split at h
    · rename_i v hv
      cases h
      exact ⟨hk, v, hv, rfl⟩
    · cases h
  · rintro ⟨hk, v, hv, hx⟩
    refine ⟨j, hk, ?_⟩
    rw [hv]
    dsimp only
    rw [hx]
theorem LH.has {π : aP} {ls : Array Slot} {nL : Nat} {lo : List (Option Value)} (h : LH π ls nL lo) : lv_has ls nL (prs π nL lo) := by
  refine ⟨h.1, h.2.2.1, fun q hq => ?_⟩
  obtain ⟨h1, v, h2, h3⟩ := prs_mem.mp hq
  rw [h3]
  exact h.2.2.2 _ _ h2
theorem clr_len (lo : List (Option Value)) (a : Nat) : (clr lo a).length = lo.length := by
  unfold clr
  split
  · rfl
  · split
    · split <;> simp
    · rfl
theorem clr_get {lo : List (Option Value)} {a j : Nat} {v : Value} (h : (clr lo a)[j]? = some (some v)) : lo[j]? = some (some v) ∧ ¬ (j + 1 = a ∧ v.category = 2) := by
  unfold clr at h
  split at h
  · exact ⟨h, fun q => by omega⟩
  · rename_i k
    split at h
    · rename_i x hx
      split at h
      · rename_i hcat
        rw [List.getElem?_set] at h
        split at h
        · split at h <;> cases h
        · rename_i hne
          exact ⟨h, fun q => hne (by omega)⟩
      · rename_i hcat
        refine ⟨h, fun q => ?_⟩
        have hk : j = k := by omega
        subst hk
        rw [h] at hx
        cases hx
        exact hcat q.2
    · rename_i hx
      refine ⟨h, fun q => ?_⟩
      have hk : j = k := by omega
      subst hk
      exact hx v h
theorem tV_cat (ad : Nat → Nat) (v : Value) : (tV ad v).category = v.category := by cases v <;> rfl
/-- a store of one word -/
theorem LH.st1 {π : aP} {ls ls' : Array Slot} {nL a : Nat} {lo : List (Option Value)} {v : Value} {x : Value} (h : LH π ls nL lo) (ha : a < nL) (hx : x = tV (Pad π) v)
    (h' : lv_has ls' nL ((a, x) :: (prs π nL lo).filter (fun q => !(q.1 == a) && !(q.1 + 1 == a && q.2.category == 2)))) : LH π ls' nL ((clr lo a).set a (some v)) := by
  refine ⟨h'.1, by rw [List.length_set, clr_len]; exact h.2.1, h'.2.1, fun j u hu => ?_⟩
  rw [List.getElem?_set] at hu
  split at hu
  · rename_i he
    subst he
    split at hu
    · cases hu
      rw [← hx]
      exact h'.2.2 (a, x) List.mem_cons_self
    · cases hu
  · rename_i hne
    obtain ⟨h1, h2⟩ := clr_get hu
    have hj : j < nL := by
      have := (List.getElem?_eq_some_iff.mp h1).1
      rw [h.2.1] at this
      exact this
    refine h'.2.2 (j, tV (Pad π) u) (List.mem_cons_of_mem _ (List.mem_filter.mpr ⟨prs_mem.mpr ⟨hj, u, h1, rfl⟩, ?_⟩))
    have h3 : ¬ j = a := fun q => hne q.symm
    simp only [tV_cat, Bool.and_eq_true, Bool.not_eq_true', beq_eq_false_iff_ne, Bool.and_eq_false_imp, beq_iff_eq]
    refine ⟨h3, fun h4 => ?_⟩
    simpa using fun h5 => h2 ⟨h4, h5⟩
/-- a store of two words -/
theorem LH.st2 {π : aP} {ls ls' : Array Slot} {nL a : Nat} {lo : List (Option Value)} {v : Value} {x : Value} (h : LH π ls nL lo) (ha : a + 1 < nL) (hx : x = tV (Pad π) v)
    (h' : lv_has ls' nL ((a, x) :: (prs π nL lo).filter (fun q => !(q.1 == a) && (!(q.1 == a + 1) && !(q.1 + 1 == a && q.2.category == 2))))) : LH π ls' nL (((clr lo a).set a (some v)).set (a + 1) none) := by
  refine ⟨h'.1, by rw [List.length_set, List.length_set, clr_len]; exact h.2.1, h'.2.1, fun j u hu => ?_⟩
  rw [List.getElem?_set] at hu
  split at hu
  · split at hu <;> cases hu
  · rename_i hne1
    rw [List.getElem?_set] at hu
    split at hu
    · rename_i he
      subst he
      split at hu
      · cases hu
        rw [← hx]
        exact h'.2.2 (a, x) List.mem_cons_self
      · cases hu
    · rename_i hne
      obtain ⟨h1, h2⟩ := clr_get hu
      have hj : j < nL := by
        have := (List.getElem?_eq_some_iff.mp h1).1
        rw [h.2.1] at this
        exact this
      refine h'.2.2 (j, tV (Pad π) u) (List.mem_cons_of_mem _ (List.mem_filter.mpr ⟨prs_mem.mpr ⟨hj, u, h1, rfl⟩, ?_⟩))
      have h3 : ¬ j = a := fun q => hne q.symm
      have h4 : ¬ j = a + 1 := fun q => hne1 q.symm
      simp only [tV_cat, Bool.and_eq_true, Bool.not_eq_true', beq_eq_false_iff_ne, Bool.and_eq_false_imp, beq_iff_eq]
      refine ⟨h3, h4, fun h4 => ?_⟩
      simpa using fun h5 => h2 ⟨h4, h5⟩
/-- what is fixed, outside the world -/
def FxS (π : aP) (U : State) (H : Heap) : Prop :=
  (vx_Zq Bundle.tN "UNASSIGNED_STACK" Bundle.steD (PA π) U H ∧ vx_Zq Bundle.tN "SUPPRESSED_SENTINEL" Bundle.listD (PA π) U H) ∧
  (∀ k t n f, π.2.2.2.2.1 k = some (t, n, f) → (t = 0 ∨ t = 2) ∧ va_T (tyT t) (π.2.2.2.1 k) n (fun j => .int (f j)) (PA π) U H) ∧
  (∀ k, k < 100 → (π.2.2.2.2.1 (k + 100)).isSome = true → va_O "java/lang/String" (π.2.2.2.1 k) (PA π) U H ∧ va_OF "java/lang/String" "coder" "B" (.int 0) (π.2.2.2.1 k) (PA π) U H ∧ va_OF "java/lang/String" "value" "[B" (.ref (π.2.2.2.1 (k + 100))) (π.2.2.2.1 k) (PA π) U H) ∧
  (∀ a, a < 4 → va_Z (stT a).1 (stT a).2.1 (stT a).2.2 (tV (Pad π) (π.2.2.2.2.2 a)) (PA π) U H) ∧
  (∀ q ∈ strTab, ∃ sa, vk_R q.1 q.2.1 q.2.2.1 sa U ∧ (q.2.2.2 < 100 → sa = π.2.2.2.1 q.2.2.2)) ∧
  (∀ w ∈ lw_tbl, warmW w = true → va_Nw w U) ∧
  (∀ a b, a < 4 → b < 4 → a ≠ b → va_Nc (exN a) (exN b) U) ∧
  (∀ t C, 4 ≤ t → t < nTy → tyT t = .object C → va_AO C U)
theorem warm_of {w : Cond} (hw : warmW w = true) {s U : State} (hW : s.WarmedH U.vm) (h : va_Nw w s) : va_Nw w U := by
  cases w <;> first | exact va_Nw.warmM hW h | exact va_Nw.warmC hW h | exact va_Nw.warmD hW h | exact absurd hw (by simp [warmW])
theorem FxS.to {π : aP} {s U : State} {H0 H : Heap} (h : FxS π s H0) (hW : s.WarmedH U.vm) (hq : ∀ a : Nat, a < H0.size → ¬ PA π a → H[a]? = H0[a]?) : FxS π U H := by
  obtain ⟨⟨h1, h2⟩, h3, h4, h5, h6, h7, h8, h9⟩ := h
  refine ⟨⟨(h1.kept hq).moved hW.alike, (h2.kept hq).moved hW.alike⟩, fun k t n f hk => ⟨(h3 k t n f hk).1, ((h3 k t n f hk).2.kept hq).moved hW.alike⟩, fun k hk hs => ?_, fun a ha => ((h5 a ha).kept hq).moved hW.alike, fun q hqm => ?_, fun w hw hww => warm_of hww hW (h7 w hw hww), fun a b ha hb hab => (h8 a b ha hb hab).moved hW.alike, fun t C h1 h2 h3 => (h9 t C h1 h2 h3).moved hW.alike⟩
  · obtain ⟨a1, a2, a3⟩ := h4 k hk hs
    exact ⟨(a1.kept hq).moved hW.alike, (a2.kept hq).moved hW.alike, (a3.kept hq).moved hW.alike⟩
  · obtain ⟨sa, a1, a2⟩ := h6 q hqm
    exact ⟨sa, a1.warm hW, a2⟩
/-- the frame that a method runs in -/
def CTX (π : aP) (own : String) (cc : ByteArray) (nL nb : Nat) (p : Program) (s : State) (m : MethodId) (args : Array Value) (c : Code) : Prop :=
  p.tables.exec = Jvm.exec ∧ c.code = cc ∧ c.maxLocals = nL ∧ s.vm.findClass own = some m.cls ∧ (∀ w ∈ WS, w.before args s = true) ∧ va_K π.1 vwCl (tysL π) s ∧ FxS π s s.heap ∧ π.2.2.1 ≤ s.heap.size ∧ (nb < N0 → s.heap.size = π.2.2.1 + nb)
def InvW (π : aP) (w : aW) (s : State) (H : Heap) (locs : List Loc) : Prop :=
  va_P π.1 vwCl (wl π w) H ∧ va_D (PA π) (wl π w) ∧ va_S (PA π) s.heap H locs ∧ w.1 ≤ N0
theorem N0_FB : N0 < FB := Nat.le_of_ble_eq_true rfl
theorem InvW.lo {π : aP} {w : aW} {s : State} {H : Heap} {locs : List Loc} (h : InvW π w s H locs) (hs : π.2.2.1 ≤ s.heap.size) : π.2.2.1 + w.1 ≤ H.size := by
  obtain ⟨h1, h2, h3, h4⟩ := h
  cases hw : w.1 with
  | zero => have := h3.1; omega
  | succ k =>
    have h5 : (wl π w)[k]? = some (Pad π k, tE (Pad π) π.2.1 (w.2 k)) := wl_get ⟨by omega, rfl⟩
    have h6 := vx_lt h1 h5
    have h7 : Pad π k = π.2.2.1 + k := Pad_lo (by have := N0_FB; omega)
    dsimp only at h6
    rw [h7] at h6
    omega
/-- each class: its words, its fields' types and names -/
theorem cls_ws : (vwCl.all fun q => (u_ws q.1 q.2.1 q.2.2).all fun w => decide (w ∈ lw_tbl) && goodWord w) = true := by decide +kernel
theorem cls_in {ci : Nat} {C : String} {T : u_T} {N : Nat} (h : vwCl[ci]? = some (C, T, N)) : ∀ w ∈ u_ws C T N, w ∈ WS := by
  intro w hw
  have h1 := List.all_eq_true.mp cls_ws _ (List.mem_of_getElem? h)
  have h2 := List.all_eq_true.mp h1 w hw
  simp only [Bool.and_eq_true, decide_eq_true_eq] at h2
  exact List.mem_filter.mpr h2
theorem cls_ty {ci : Nat} {C : String} {T : u_T} {N : Nat} (h : vwCl[ci]? = some (C, T, N)) : ∀ k, k < N → parseFieldDescriptor (T k).2.2.1 = some (ftyA ci k) := by
  match ci, h with
  | 0, h => cases h; exact tyX0_ok
  | 1, h => cases h; exact tyX1_ok
  | 2, h => cases h; exact tyX2_ok
  | 3, h => cases h; exact tyX3_ok
  | 4, h => cases h; exact tyX4_ok
  | 5, h => cases h; exact tyX5_ok
  | 6, h => cases h; exact tyX6_ok
  | 7, h => cases h; exact tyX7_ok
  | 8, h => cases h; exact tyX8_ok
  | 9, h => cases h; exact tyX9_ok
  | 10, h => cases h; exact tyX10_ok
  | 11, h => cases h; exact tyX11_ok
  | k + 12, h => simp [vwCl] at h
theorem cls_nm {ci : Nat} {C : String} {T : u_T} {N : Nat} (h : vwCl[ci]? = some (C, T, N)) : ∀ a, a < N → ∀ b, b < N → a ≠ b → (T a).2.1 ≠ (T b).2.1 := by
  match ci, h with
  | 0, h => cases h; exact nmX0
  | 1, h => cases h; exact nmX1
  | 2, h => cases h; exact nmX2
  | 3, h => cases h; exact nmX3
  | 4, h => cases h; exact nmX4
  | 5, h => cases h; exact nmX5
  | 6, h => cases h; exact nmX6
  | 7, h => cases h; exact nmX7
  | 8, h => cases h; exact nmX8
  | 9, h => cases h; exact nmX9
  | 10, h => cases h; exact nmX10
  | 11, h => cases h; exact nmX11
  | k + 12, h => simp [vwCl] at h
theorem tV_nar {ad : Nat → Nat} {ty : FieldType} {v : Value} (h : narrow ty v = v) : narrow ty (tV ad v) = tV ad v := by
  cases v <;> first | exact h | (cases ty <;> rfl)
theorem tV_fit {ad : Nat → Nat} {ty : FieldType} {v : Value} (h : fits ty v = true) : fits ty (tV ad v) = true := by
  cases v <;> first | exact h | (cases ty <;> first | rfl | exact h)
end
section
/-! soundness of the instructions one by one -/
/-- a way to go on that the machine goes, too -/
def KS (π : aP) (p : Program) (l : Launch) (e : Env) (R : Room) (s : State) (m : MethodId) (args : Array Value) (below : List Frame) (meth : Method) (c : Code) (QQ : State → Prop) (nL : Nat) (pcs : Nat → Nat) (k : aK) : Prop :=
  ∀ w uc us i lo st, k w uc us i lo st → ∀ H locs ls, InvW π w s H locs → LH π ls nL lo → W p l e R s m args below meth c H locs uc us QQ (F0 m (pcs i) ls (st.map (tV (Pad π))))
theorem KS.at {π : aP} {p : Program} {l : Launch} {e : Env} {R : Room} {s : State} {m : MethodId} {args : Array Value} {below : List Frame} {meth : Method} {c : Code} {QQ : State → Prop} {nL : Nat} {pcs : Nat → Nat} {k : aK} (hk : KS π p l e R s m args below meth c QQ nL pcs k) {w : aW} {uc us i i' n : Nat} {lo : List (Option Value)} {st : List Value} (h : k w uc us i' lo st) (hn : pcs i' = pcs i + n) {H : Heap} {locs : List Loc} {ls : Array Slot} (hI : InvW π w s H locs) (hl : LH π ls nL lo) :
    W p l e R s m args below meth c H locs uc us QQ (F0 m (pcs i + n) ls (st.map (tV (Pad π)))) := by
  have h1 := hk _ _ _ _ _ _ h H locs ls hI hl
  rw [hn] at h1
  exact h1
section SOPS
variable {π : aP} {p : Program} {l : Launch} {e : Env} {R : Room} {s : State} {m : MethodId} {args : Array Value} {below : List Frame} {meth : Method} {c : Code} {QQ : State → Prop}
variable {own : String} {cc : ByteArray} {nL nb : Nat} {pcs : Nat → Nat} {k : aK} {w : aW} {uc us i : Nat} {lo : List (Option Value)} {st : List Value} {H : Heap} {locs : List Loc} {ls : Array Slot} {J : Instr} {n : Nat}

theorem so_ld {a b : Nat} (C : CTX π own cc nL nb p s m args c) (hk : KS π p l e R s m args below meth c QQ nL pcs k) (hd : decode cc (pcs i) = .ok (J, n)) (hj : pcs (i + 1) = pcs i + n ∧ ldJ a b J n) (ho : opLd k a b w uc us i lo st) (hI : InvW π w s H locs) (hl : LH π ls nL lo) :
    W p l e R s m args below meth c H locs uc us QQ (F0 m (pcs i) ls (st.map (tV (Pad π)))) := by
  obtain ⟨hx, hb, hml, hown, hts, hK, hF, hsz, hnb⟩ := C
  obtain ⟨v, h1, h2, h3⟩ := ho
  obtain ⟨hn, hj⟩ := hj
  have hsl := hl.2.2.2 a v h1
  have kk := hk.at h3 hn hI hl
  subst h2
  cases v <;> simp only [kindV, ldJ] at hj
  · rcases hj with ⟨rfl, rfl⟩ | ⟨z, rfl, hz, rfl⟩
    · exact lv_iload hx hb hd hsl kk
    · exact lv_iload_n hx hb hd hz hsl kk
  · rcases hj with ⟨rfl, rfl⟩ | ⟨z, rfl, hz, rfl⟩
    · exact lv_lload hx hb hd hsl kk
    · exact lv_lload_n hx hb hd hz hsl kk
  · rcases hj with ⟨rfl, rfl⟩ | ⟨z, rfl, hz, rfl⟩
    · exact lv_aload hx hb hd hsl kk
    · exact lv_aload_n hx hb hd hz hsl kk
theorem so_st {a b : Nat} (C : CTX π own cc nL nb p s m args c) (hk : KS π p l e R s m args below meth c QQ nL pcs k) (hd : decode cc (pcs i) = .ok (J, n)) (hj : pcs (i + 1) = pcs i + n ∧ stJ a b J n) (ho : opSt k a b w uc us i lo st) (hI : InvW π w s H locs) (hl : LH π ls nL lo) :
    W p l e R s m args below meth c H locs uc us QQ (F0 m (pcs i) ls (st.map (tV (Pad π)))) := by
  obtain ⟨hx, hb, hml, hown, hts, hK, hF, hsz, hnb⟩ := C
  obtain ⟨hn, hj⟩ := hj
  cases st with
  | nil => exact ho.elim
  | cons v r =>
    obtain ⟨h2, h3, h4, h5⟩ := ho
    rw [hl.2.1] at h3 h4
    subst h2
    cases v <;> simp only [kindV, stJ] at hj
    · have kk : ∀ ls' : Array Slot, lv_has ls' nL _ → _ := fun ls' h' => hk.at h5 hn hI (hl.st1 h3 rfl h')
      rcases hj with ⟨rfl, rfl⟩ | ⟨z, rfl, hz, rfl⟩
      · exact lv_istore hx hb hd hl.has h3 rfl kk
      · exact lv_istore_n hx hb hd hz hl.has h3 rfl kk
    · have kk : ∀ ls' : Array Slot, lv_has ls' nL _ → _ := fun ls' h' => hk.at h5 hn hI (hl.st2 (h4 rfl) rfl h')
      rcases hj with ⟨rfl, rfl⟩ | ⟨z, rfl, hz, rfl⟩
      · exact lv_lstore hx hb hd hl.has (h4 rfl) rfl kk
      · exact lv_lstore_n hx hb hd hz hl.has (h4 rfl) rfl kk
    · have kk : ∀ ls' : Array Slot, lv_has ls' nL _ → _ := fun ls' h' => hk.at h5 hn hI (hl.st1 h3 rfl h')
      rcases hj with ⟨rfl, rfl⟩ | ⟨z, rfl, hz, rfl⟩
      · exact lv_astore hx hb hd hl.has h3 rfl kk
      · exact lv_astore_n hx hb hd hz hl.has h3 rfl kk
theorem so_co {a : Nat} {v : Value} (C : CTX π own cc nL nb p s m args c) (hk : KS π p l e R s m args below meth c QQ nL pcs k) (hd : decode cc (pcs i) = .ok (J, n)) (hj : pcs (i + 1) = pcs i + n ∧ coJ own a v J n) (ho : k w uc us (i + 1) lo (v :: st)) (hI : InvW π w s H locs) (hl : LH π ls nL lo) :
    W p l e R s m args below meth c H locs uc us QQ (F0 m (pcs i) ls (st.map (tV (Pad π)))) := by
  obtain ⟨hx, hb, hml, hown, hts, hK, hF, hsz, hnb⟩ := C
  obtain ⟨hn, hj⟩ := hj
  have kk := hk.at ho hn hI hl
  unfold coJ at hj
  split at hj
  · obtain ⟨z, rfl, rfl, rfl⟩ := hj
    exact lv_iconst hx hb hd rfl kk
  · obtain ⟨z, rfl, rfl, rfl⟩ := hj
    exact lv_bipush hx hb hd rfl kk
  · obtain ⟨z, rfl, rfl, rfl⟩ := hj
    exact lv_sipush hx hb hd rfl kk
  · obtain ⟨z, rfl, rfl, rfl⟩ := hj
    exact lv_lconst hx hb hd rfl kk
  · obtain ⟨ix, x, rfl, rfl, rfl, hw⟩ := hj
    exact lv_ldc2 hx hb hown (hts _ hw) hd kk
theorem so_inc {a : Nat} {v : Value} (C : CTX π own cc nL nb p s m args c) (hk : KS π p l e R s m args below meth c QQ nL pcs k) (hd : decode cc (pcs i) = .ok (J, n)) (hj : pcs (i + 1) = pcs i + n ∧ ∃ z, J = .iinc a z ∧ n = 3 ∧ v = .int (Int32.ofInt z)) (ho : opInc k a v w uc us i lo st) (hI : InvW π w s H locs) (hl : LH π ls nL lo) :
    W p l e R s m args below meth c H locs uc us QQ (F0 m (pcs i) ls (st.map (tV (Pad π)))) := by
  obtain ⟨hx, hb, hml, hown, hts, hK, hF, hsz, hnb⟩ := C
  obtain ⟨hn, z, rfl, rfl, rfl⟩ := hj
  obtain ⟨x, h1, h2⟩ := ho
  have ha : a < nL := by
    have := (List.getElem?_eq_some_iff.mp h1).1
    rw [hl.2.1] at this
    exact this
  obtain ⟨q, hq⟩ := List.getElem?_of_mem (prs_mem.mpr ⟨ha, _, h1, rfl⟩ : ((a, tV (Pad π) (.int x)) : Nat × Value) ∈ prs π nL lo)
  exact lv_iinc hx hb hd hl.has hq rfl ha rfl (fun ls' h' => hk.at h2 hn hI (hl.st1 ha rfl h'))
theorem so_bin {b : Nat} (C : CTX π own cc nL nb p s m args c) (hk : KS π p l e R s m args below meth c QQ nL pcs k) (hd : decode cc (pcs i) = .ok (J, n)) (hj : pcs (i + 1) = pcs i + n ∧ J = binJ b ∧ n = 1 ∧ b < 8) (ho : opBin k b w uc us i lo st) (hI : InvW π w s H locs) (hl : LH π ls nL lo) :
    W p l e R s m args below meth c H locs uc us QQ (F0 m (pcs i) ls (st.map (tV (Pad π)))) := by
  obtain ⟨hx, hb, hml, hown, hts, hK, hF, hsz, hnb⟩ := C
  obtain ⟨hn, rfl, rfl, hb8⟩ := hj
  match st, ho with
  | .int y :: .int x :: r, ho =>
    have kk := hk.at ho hn hI hl
    rcases (show b = 0 ∨ b = 1 ∨ b = 2 ∨ b = 3 ∨ b = 4 ∨ b = 5 ∨ b = 6 ∨ b = 7 by omega) with rfl | rfl | rfl | rfl | rfl | rfl | rfl | rfl
    · exact lv_iadd hx hb hd kk
    · exact lv_isub hx hb hd kk
    · exact lv_imul hx hb hd kk
    · exact lv_iand hx hb hd kk
    · exact lv_ior hx hb hd kk
    · exact lv_ixor hx hb hd kk
    · exact lv_ishl hx hb hd kk
    · exact lv_ishr hx hb hd kk
theorem so_dv {b : Nat} (C : CTX π own cc nL nb p s m args c) (hk : KS π p l e R s m args below meth c QQ nL pcs k) (hd : decode cc (pcs i) = .ok (J, n)) (hj : pcs (i + 1) = pcs i + n ∧ J = dvJ b ∧ n = 1 ∧ b < 2) (ho : opDv k b w uc us i lo st) (hI : InvW π w s H locs) (hl : LH π ls nL lo) :
    W p l e R s m args below meth c H locs uc us QQ (F0 m (pcs i) ls (st.map (tV (Pad π)))) := by
  obtain ⟨hx, hb, hml, hown, hts, hK, hF, hsz, hnb⟩ := C
  obtain ⟨hn, rfl, rfl, hb8⟩ := hj
  match st, ho with
  | .int y :: .int x :: r, ho =>
    have kk := hk.at ho.2 hn hI hl
    rcases (show b = 0 ∨ b = 1 by omega) with rfl | rfl
    · exact lv_idiv hx hb hd ho.1 kk
    · exact lv_irem hx hb hd ho.1 kk
theorem so_un {b : Nat} (C : CTX π own cc nL nb p s m args c) (hk : KS π p l e R s m args below meth c QQ nL pcs k) (hd : decode cc (pcs i) = .ok (J, n)) (hj : pcs (i + 1) = pcs i + n ∧ J = unJ b ∧ n = 1 ∧ b < 4) (ho : opUn k b w uc us i lo st) (hI : InvW π w s H locs) (hl : LH π ls nL lo) :
    W p l e R s m args below meth c H locs uc us QQ (F0 m (pcs i) ls (st.map (tV (Pad π)))) := by
  obtain ⟨hx, hb, hml, hown, hts, hK, hF, hsz, hnb⟩ := C
  obtain ⟨hn, rfl, rfl, hb8⟩ := hj
  match st, ho with
  | .int x :: r, ho =>
    have kk := hk.at ho hn hI hl
    rcases (show b = 0 ∨ b = 1 ∨ b = 2 ∨ b = 3 by omega) with rfl | rfl | rfl | rfl
    · exact lv_i2l hx hb hd rfl kk
    · exact lv_i2b hx hb hd rfl kk
    · exact lv_i2c hx hb hd rfl kk
    · exact lv_ineg hx hb hd kk
theorem so_binL {b : Nat} (C : CTX π own cc nL nb p s m args c) (hk : KS π p l e R s m args below meth c QQ nL pcs k) (hd : decode cc (pcs i) = .ok (J, n)) (hj : pcs (i + 1) = pcs i + n ∧ J = binLJ b ∧ n = 1 ∧ b < 4) (ho : opBinL k b w uc us i lo st) (hI : InvW π w s H locs) (hl : LH π ls nL lo) :
    W p l e R s m args below meth c H locs uc us QQ (F0 m (pcs i) ls (st.map (tV (Pad π)))) := by
  obtain ⟨hx, hb, hml, hown, hts, hK, hF, hsz, hnb⟩ := C
  obtain ⟨hn, rfl, rfl, hb8⟩ := hj
  match st, ho with
  | .long y :: .long x :: r, ho =>
    have kk := hk.at ho hn hI hl
    rcases (show b = 0 ∨ b = 1 ∨ b = 2 ∨ b = 3 by omega) with rfl | rfl | rfl | rfl
    · exact lv_ladd hx hb hd kk
    · exact lv_lsub hx hb hd kk
    · exact lv_lmul hx hb hd kk
    · exact lv_lor hx hb hd kk
theorem so_dvL {b : Nat} (C : CTX π own cc nL nb p s m args c) (hk : KS π p l e R s m args below meth c QQ nL pcs k) (hd : decode cc (pcs i) = .ok (J, n)) (hj : pcs (i + 1) = pcs i + n ∧ J = dvLJ b ∧ n = 1 ∧ b < 2) (ho : opDvL k b w uc us i lo st) (hI : InvW π w s H locs) (hl : LH π ls nL lo) :
    W p l e R s m args below meth c H locs uc us QQ (F0 m (pcs i) ls (st.map (tV (Pad π)))) := by
  obtain ⟨hx, hb, hml, hown, hts, hK, hF, hsz, hnb⟩ := C
  obtain ⟨hn, rfl, rfl, hb8⟩ := hj
  match st, ho with
  | .long y :: .long x :: r, ho =>
    have kk := hk.at ho.2 hn hI hl
    rcases (show b = 0 ∨ b = 1 by omega) with rfl | rfl
    · exact lv_ldiv hx hb hd ho.1 kk
    · exact lv_lrem hx hb hd ho.1 kk
theorem so_cmL (C : CTX π own cc nL nb p s m args c) (hk : KS π p l e R s m args below meth c QQ nL pcs k) (hd : decode cc (pcs i) = .ok (J, n)) (hj : pcs (i + 1) = pcs i + n ∧ J = .lcmp ∧ n = 1) (ho : opCmL k w uc us i lo st) (hI : InvW π w s H locs) (hl : LH π ls nL lo) :
    W p l e R s m args below meth c H locs uc us QQ (F0 m (pcs i) ls (st.map (tV (Pad π)))) := by
  obtain ⟨hx, hb, hml, hown, hts, hK, hF, hsz, hnb⟩ := C
  obtain ⟨hn, rfl, rfl⟩ := hj
  match st, ho with
  | .long y :: .long x :: r, ho => exact W.lcmp hx hb hd (hk.at ho hn hI hl)
theorem so_shL (C : CTX π own cc nL nb p s m args c) (hk : KS π p l e R s m args below meth c QQ nL pcs k) (hd : decode cc (pcs i) = .ok (J, n)) (hj : pcs (i + 1) = pcs i + n ∧ J = .lshl ∧ n = 1) (ho : opShL k w uc us i lo st) (hI : InvW π w s H locs) (hl : LH π ls nL lo) :
    W p l e R s m args below meth c H locs uc us QQ (F0 m (pcs i) ls (st.map (tV (Pad π)))) := by
  obtain ⟨hx, hb, hml, hown, hts, hK, hF, hsz, hnb⟩ := C
  obtain ⟨hn, rfl, rfl⟩ := hj
  match st, ho with
  | .int y :: .long x :: r, ho => exact lv_lshl hx hb hd rfl (hk.at ho hn hI hl)
theorem so_dup {b : Nat} (C : CTX π own cc nL nb p s m args c) (hk : KS π p l e R s m args below meth c QQ nL pcs k) (hd : decode cc (pcs i) = .ok (J, n)) (hj : pcs (i + 1) = pcs i + n ∧ J = dupJ b ∧ n = 1 ∧ b < 3) (ho : opDup k b w uc us i lo st) (hI : InvW π w s H locs) (hl : LH π ls nL lo) :
    W p l e R s m args below meth c H locs uc us QQ (F0 m (pcs i) ls (st.map (tV (Pad π)))) := by
  obtain ⟨hx, hb, hml, hown, hts, hK, hF, hsz, hnb⟩ := C
  obtain ⟨hn, rfl, rfl, hb8⟩ := hj
  match b, st, ho with
  | 0, v :: r, ho => exact lv_dup hx hb hd (by rw [tV_cat]; exact ho.1) (hk.at ho.2 hn hI hl)
  | 1, v :: u :: r, ho => exact lv_dup2_11 hx hb hd (by rw [tV_cat]; exact ho.1) (by rw [tV_cat]; exact ho.2.1) (hk.at ho.2.2 hn hI hl)
  | 2, v :: r, ho => exact lv_pop hx hb hd (by rw [tV_cat]; exact ho.1) (hk.at ho.2 hn hI hl)
theorem so_if {a b : Nat} (C : CTX π own cc nL nb p s m args c) (hk : KS π p l e R s m args below meth c QQ nL pcs k) (hd : decode cc (pcs i) = .ok (J, n)) (hj : pcs (i + 1) = pcs i + n ∧ b < 6 ∧ ∃ off, J = .ifCond (cndJ b) off ∧ n = 3 ∧ (pcs i : Int) + off = (pcs a : Int)) (ho : opIf k a b w uc us i lo st) (hI : InvW π w s H locs) (hl : LH π ls nL lo) :
    W p l e R s m args below meth c H locs uc us QQ (F0 m (pcs i) ls (st.map (tV (Pad π)))) := by
  obtain ⟨hx, hb, hml, hown, hts, hK, hF, hsz, hnb⟩ := C
  obtain ⟨hn, hb8, off, rfl, rfl, ht⟩ := hj
  match st, ho with
  | .int x :: r, ho =>
    have kt := fun h => hk _ _ _ _ _ _ (ho.1 h) H locs ls hI hl
    have kf := fun h => hk.at (ho.2 h) hn hI hl
    rcases (show b = 0 ∨ b = 1 ∨ b = 2 ∨ b = 3 ∨ b = 4 ∨ b = 5 by omega) with rfl | rfl | rfl | rfl | rfl | rfl
    · exact lv_if_eq hx hb hd ht kt kf
    · exact lv_if_ne hx hb hd ht kt (fun h => kf (fun h2 => h2 h))
    · exact lv_if_lt hx hb hd ht kt kf
    · exact lv_if_ge hx hb hd ht kt kf
    · exact lv_if_gt hx hb hd ht kt kf
    · exact lv_if_le hx hb hd ht kt kf
theorem so_cmp {a b : Nat} (C : CTX π own cc nL nb p s m args c) (hk : KS π p l e R s m args below meth c QQ nL pcs k) (hd : decode cc (pcs i) = .ok (J, n)) (hj : pcs (i + 1) = pcs i + n ∧ b < 6 ∧ ∃ off, J = .if_icmp (cndJ b) off ∧ n = 3 ∧ (pcs i : Int) + off = (pcs a : Int)) (ho : opCmp k a b w uc us i lo st) (hI : InvW π w s H locs) (hl : LH π ls nL lo) :
    W p l e R s m args below meth c H locs uc us QQ (F0 m (pcs i) ls (st.map (tV (Pad π)))) := by
  obtain ⟨hx, hb, hml, hown, hts, hK, hF, hsz, hnb⟩ := C
  obtain ⟨hn, hb8, off, rfl, rfl, ht⟩ := hj
  match st, ho with
  | .int y :: .int x :: r, ho =>
    have kt := fun h => hk _ _ _ _ _ _ (ho.1 h) H locs ls hI hl
    have kf := fun h => hk.at (ho.2 h) hn hI hl
    rcases (show b = 0 ∨ b = 1 ∨ b = 2 ∨ b = 3 ∨ b = 4 ∨ b = 5 by omega) with rfl | rfl | rfl | rfl | rfl | rfl
    · exact lv_icmp_eq hx hb hd ht kt kf
    · exact lv_icmp_ne hx hb hd ht kt (fun h => kf (fun h2 => h2 h))
    · exact lv_icmp_lt hx hb hd ht kt kf
    · exact lv_icmp_ge hx hb hd ht kt kf
    · exact lv_icmp_gt hx hb hd ht kt kf
    · exact lv_icmp_le hx hb hd ht kt kf
theorem so_go {a : Nat} (C : CTX π own cc nL nb p s m args c) (hk : KS π p l e R s m args below meth c QQ nL pcs k) (hd : decode cc (pcs i) = .ok (J, n)) (hj : ∃ off, J = .goto off ∧ n = 3 ∧ (pcs i : Int) + off = (pcs a : Int)) (ho : k w uc us a lo st) (hI : InvW π w s H locs) (hl : LH π ls nL lo) :
    W p l e R s m args below meth c H locs uc us QQ (F0 m (pcs i) ls (st.map (tV (Pad π)))) := by
  obtain ⟨hx, hb, hml, hown, hts, hK, hF, hsz, hnb⟩ := C
  obtain ⟨off, rfl, rfl, ht⟩ := hj
  exact lv_goto hx hb hd ht (hk _ _ _ _ _ _ ho H locs ls hI hl)
theorem so_sw {a b : Nat} {tl : List Nat} (C : CTX π own cc nL nb p s m args c) (hk : KS π p l e R s m args below meth c QQ nL pcs k) (hd : decode cc (pcs i) = .ok (J, n)) (hj : ∃ dflt lo hi offs, J = .tableswitch dflt lo hi offs ∧ lo = (b : Int) ∧ hi + 1 = (b : Int) + (tl.length : Int) ∧ (pcs i : Int) + dflt = (pcs a : Int) ∧ ∀ (j t : Nat), tl[j]? = some t → ∃ off : Int, offs[j]? = some off ∧ (pcs i : Int) + off = (pcs t : Int)) (ho : opSw k a b tl w uc us lo st) (hI : InvW π w s H locs) (hl : LH π ls nL lo) :
    W p l e R s m args below meth c H locs uc us QQ (F0 m (pcs i) ls (st.map (tV (Pad π)))) := by
  obtain ⟨hx, hb, hml, hown, hts, hK, hF, hsz, hnb⟩ := C
  obtain ⟨dflt, lo9, hi9, offs, rfl, h1, h2, ht, h3⟩ := hj
  match st, ho with
  | .int x :: r, ho =>
    obtain ⟨ho1, ho2⟩ := ho
    by_cases hc : x.toInt < b ∨ b + tl.length ≤ x.toInt
    · exact lv_tableOut hx hb hd (by rcases hc with h | h <;> first | (left; omega) | (right; omega)) ht (hk _ _ _ _ _ _ (ho1 hc) H locs ls hI hl)
    · have hlt : (x.toInt - b).toNat < tl.length := by omega
      obtain ⟨off, hf, hg⟩ := h3 _ _ (List.getElem?_eq_getElem hlt)
      exact lv_tableIn hx hb hd (by omega) (by omega) (by rw [h1]; exact hf) hg (hk _ _ _ _ _ _ (ho2 _ _ (List.getElem?_eq_getElem hlt) (by omega)) H locs ls hI hl)
theorem so_get {a b : Nat} (C : CTX π own cc nL nb p s m args c) (hk : KS π p l e R s m args below meth c QQ nL pcs k) (hd : decode cc (pcs i) = .ok (J, n)) (hj : pcs (i + 1) = pcs i + n ∧ ∃ ix, J = .getfield ix ∧ n = 3 ∧ fldJ own ix a b) (ho : opGet k a b w uc us i lo st) (hI : InvW π w s H locs) (hl : LH π ls nL lo) :
    W p l e R s m args below meth c H locs uc us QQ (F0 m (pcs i) ls (st.map (tV (Pad π)))) := by
  obtain ⟨hx, hb, hml, hown, hts, hK, hF, hsz, hnb⟩ := C
  obtain ⟨hn, ix, rfl, rfl, C, T, N, hc, hbN, hT, hlk⟩ := hj
  obtain ⟨hP, hD, hS, hN⟩ := id hI
  match st, ho with
  | .ref q :: r, ho =>
    obtain ⟨fs, v, h1, h2, h3⟩ := ho
    exact va_get (D := π.1) (ci := a) (v := tV (Pad π) v) hx hb hts (cls_in hc) hown hK hP q (wl_get h1) hc b hbN (hts _ hlk) (fun x h => by rw [hT] at h; exact h) (by rw [List.getElem?_map, h2]; rfl) hd (hk.at h3 hn hI hl)
theorem so_put {a b : Nat} (C : CTX π own cc nL nb p s m args c) (hk : KS π p l e R s m args below meth c QQ nL pcs k) (hd : decode cc (pcs i) = .ok (J, n)) (hj : pcs (i + 1) = pcs i + n ∧ ∃ ix C T N, J = .putfield ix ∧ n = 3 ∧ fldJ own ix a b ∧ vwCl[a]? = some (C, T, N) ∧ (T b).2.2.2 = false) (ho : opPut k a b (ftyA a b) w uc us i lo st) (hI : InvW π w s H locs) (hl : LH π ls nL lo) :
    W p l e R s m args below meth c H locs uc us QQ (F0 m (pcs i) ls (st.map (tV (Pad π)))) := by
  obtain ⟨hx, hb, hml, hown, hts, hK, hF, hsz, hnb⟩ := C
  obtain ⟨hn, ix, C9, T9, N9, rfl, rfl, ⟨C, T, N, hc, hbN, hT, hlk⟩, hc9, hfin⟩ := hj
  cases hc.symm.trans hc9
  obtain ⟨hP, hD, hS, hN⟩ := id hI
  match st, ho with
  | v :: .ref q :: r, ho =>
    obtain ⟨fs, h1, h2, h3, h4, h5⟩ := ho
    refine va_put (D := π.1) (ci := a) (v := tV (Pad π) v) (ty := ftyA a b) hx hb hts (cls_in hc) (ftyA a) (cls_ty hc) (cls_nm hc) hown hK hP hD hS q (wl_get h1) hc b hbN (hts _ hlk) (fun x h => by rw [hT] at h; exact h) hfin (cls_ty hc b hbN) (tV_nar h3) (tV_fit h4) (by rw [List.length_map]; exact h2) hd (fun H1 locs1 hP1 hD1 hS1 => ?_)
    rw [← List.map_set] at hP1 hD1
    rw [show (Pad π q, (Sum.inr (a, (fs.set b v).map (tV (Pad π))) : va_E)) = (Pad π q, tE (Pad π) π.2.1 (.inr (a, fs.set b v))) from rfl, wl_up] at hP1 hD1
    exact hk.at h5 hn ⟨hP1, hD1, hS1, hN⟩ hl
theorem so_putF {a b : Nat} (hin : meth.name = "<init>") (C : CTX π own cc nL nb p s m args c) (hk : KS π p l e R s m args below meth c QQ nL pcs k) (hd : decode cc (pcs i) = .ok (J, n)) (hj : pcs (i + 1) = pcs i + n ∧ ∃ ix C T N, J = .putfield ix ∧ n = 3 ∧ fldJ own ix a b ∧ vwCl[a]? = some (C, T, N) ∧ (T b).2.2.2 = true ∧ C = own ∧ True) (ho : opPut k a b (ftyA a b) w uc us i lo st) (hI : InvW π w s H locs) (hl : LH π ls nL lo) :
    W p l e R s m args below meth c H locs uc us QQ (F0 m (pcs i) ls (st.map (tV (Pad π)))) := by
  obtain ⟨hx, hb, hml, hown, hts, hK, hF, hsz, hnb⟩ := C
  obtain ⟨hn, ix, C9, T9, N9, rfl, rfl, ⟨C, T, N, hc, hbN, hT, hlk⟩, hc9, hfin, hCo, hini⟩ := hj
  cases hc.symm.trans hc9
  obtain ⟨hP, hD, hS, hN⟩ := id hI
  match st, ho with
  | v :: .ref q :: r, ho =>
    obtain ⟨fs, h1, h2, h3, h4, h5⟩ := ho
    refine va_putF (D := π.1) (ci := a) (v := tV (Pad π) v) (ty := ftyA a b) hx hb hts (cls_in hc) (ftyA a) (cls_ty hc) (cls_nm hc) hown hK hP hD hS q (wl_get h1) hc b hbN (hts _ hlk) (fun x h => by rw [hT] at h; exact h) hfin hin (by rw [hT]; exact hCo) (cls_ty hc b hbN) (tV_nar h3) (tV_fit h4) (by rw [List.length_map]; exact h2) hd (fun H1 locs1 hP1 hD1 hS1 => ?_)
    rw [← List.map_set] at hP1 hD1
    rw [show (Pad π q, (Sum.inr (a, (fs.set b v).map (tV (Pad π))) : va_E)) = (Pad π q, tE (Pad π) π.2.1 (.inr (a, fs.set b v))) from rfl, wl_up] at hP1 hD1
    exact hk.at h5 hn ⟨hP1, hD1, hS1, hN⟩ hl
end SOPS
end
section
/-! soundness of the instructions: rows, fixed things, new ones -/
section SOPS
variable {π : aP} {p : Program} {l : Launch} {e : Env} {R : Room} {s : State} {m : MethodId} {args : Array Value} {below : List Frame} {meth : Method} {c : Code} {QQ : State → Prop}
variable {own : String} {cc : ByteArray} {nL nb : Nat} {pcs : Nat → Nat} {k : aK} {w : aW} {uc us i : Nat} {lo : List (Option Value)} {st : List Value} {H : Heap} {locs : List Loc} {ls : Array Slot} {J : Instr} {n : Nat}

theorem Pad_fx {π : aP} {q : Nat} (h : FB ≤ q) : Pad π q = π.2.2.2.1 (q - FB) := by
  have h2 : ¬ q < FB := by omega
  simp [Pad, adr, h2]
theorem aUp_n {w : aW} {i : Nat} {e : va_E} : (aUp w i e).1 = w.1 := rfl

theorem so_len (C : CTX π own cc nL nb p s m args c) (hk : KS π p l e R s m args below meth c QQ nL pcs k) (hd : decode cc (pcs i) = .ok (J, n)) (hj : pcs (i + 1) = pcs i + n ∧ J = arJ 22 ∧ n = 1) (ho : opLen π.2.2.2.2 k w uc us i lo st) (hI : InvW π w s H locs) (hl : LH π ls nL lo) :
    W p l e R s m args below meth c H locs uc us QQ (F0 m (pcs i) ls (st.map (tV (Pad π)))) := by
  obtain ⟨hx, hb, hml, hown, hts, hK, hF, hsz, hnb⟩ := C
  obtain ⟨hn, rfl, rfl⟩ := hj
  obtain ⟨hP, hD, hS, hN⟩ := id hI
  match st, ho with
  | .ref q :: r, ho =>
    obtain ⟨z, h1, h2⟩ := ho
    have kk := hk.at h2 hn hI hl
    rcases h1 with ⟨t, a, h1, ht⟩ | ⟨t, f, h3, h4⟩
    · rcases a with f | f | f | f | f <;> exact va_alen hx hb hK hP q t (wl_get h1) (tys_get ht) rfl hd kk
    · obtain ⟨h5, h6⟩ := hF.2.1 _ _ _ _ h4
      refine va_tlen hx hb (t := Pad π q) (N := z) (ty := tyT t) (f := fun j => .int (f j)) (by rw [Pad_fx h3]; exact h6) hS rfl hd kk
theorem so_ild (C : CTX π own cc nL nb p s m args c) (hk : KS π p l e R s m args below meth c QQ nL pcs k) (hd : decode cc (pcs i) = .ok (J, n)) (hj : pcs (i + 1) = pcs i + n ∧ J = arJ 23 ∧ n = 1) (ho : opILd π.2.2.2.2 k 0 w uc us i lo st) (hI : InvW π w s H locs) (hl : LH π ls nL lo) :
    W p l e R s m args below meth c H locs uc us QQ (F0 m (pcs i) ls (st.map (tV (Pad π)))) := by
  obtain ⟨hx, hb, hml, hown, hts, hK, hF, hsz, hnb⟩ := C
  obtain ⟨hn, rfl, rfl⟩ := hj
  obtain ⟨hP, hD, hS, hN⟩ := id hI
  match st, ho with
  | .int j :: .ref q :: r, ho =>
    obtain ⟨t, z, f, h1, h2, h3, h4⟩ := ho
    have kk := hk.at h4 hn hI hl
    have ht : t = 0 := h2
    subst ht
    rcases h1 with h1 | ⟨h5, h6⟩
    · exact va_iald hx hb hK hP q 0 (wl_get h1) (tys_get (by decide)) h3 hd kk
    · exact va_ti hx hb (t := Pad π q) (N := z) (f := fun j => .int (f j)) (by rw [Pad_fx h5]; exact (hF.2.1 _ _ _ _ h6).2) hS h3 rfl hd kk
theorem so_bld (C : CTX π own cc nL nb p s m args c) (hk : KS π p l e R s m args below meth c QQ nL pcs k) (hd : decode cc (pcs i) = .ok (J, n)) (hj : pcs (i + 1) = pcs i + n ∧ J = arJ 25 ∧ n = 1) (ho : opILd π.2.2.2.2 k 1 w uc us i lo st) (hI : InvW π w s H locs) (hl : LH π ls nL lo) :
    W p l e R s m args below meth c H locs uc us QQ (F0 m (pcs i) ls (st.map (tV (Pad π)))) := by
  obtain ⟨hx, hb, hml, hown, hts, hK, hF, hsz, hnb⟩ := C
  obtain ⟨hn, rfl, rfl⟩ := hj
  obtain ⟨hP, hD, hS, hN⟩ := id hI
  match st, ho with
  | .int j :: .ref q :: r, ho =>
    obtain ⟨t, z, f, h1, h2, h3, h4⟩ := ho
    have kk := hk.at h4 hn hI hl
    have ht : t = 2 ∨ t = 3 := h2
    rcases h1 with h1 | ⟨h5, h6⟩
    · rcases ht with rfl | rfl
      · exact va_bald hx hb hK hP q 2 (wl_get h1) (tys_get (by decide)) h3 hd kk
      · exact va_zald hx hb hK hP q 3 (wl_get h1) (tys_get (by decide)) h3 hd kk
    · obtain ⟨h7, h8⟩ := hF.2.1 _ _ _ _ h6
      have ht2 : t = 2 := by omega
      subst ht2
      exact va_tb hx hb (t := Pad π q) (N := z) (f := fun j => .int (f j)) (by rw [Pad_fx h5]; exact h8) hS h3 rfl hd kk
theorem so_ist (C : CTX π own cc nL nb p s m args c) (hk : KS π p l e R s m args below meth c QQ nL pcs k) (hd : decode cc (pcs i) = .ok (J, n)) (hj : pcs (i + 1) = pcs i + n ∧ J = arJ 24 ∧ n = 1) (ho : opISt k 0 w uc us i lo st) (hI : InvW π w s H locs) (hl : LH π ls nL lo) :
    W p l e R s m args below meth c H locs uc us QQ (F0 m (pcs i) ls (st.map (tV (Pad π)))) := by
  obtain ⟨hx, hb, hml, hown, hts, hK, hF, hsz, hnb⟩ := C
  obtain ⟨hn, rfl, rfl⟩ := hj
  obtain ⟨hP, hD, hS, hN⟩ := id hI
  match st, ho with
  | .int x :: .int j :: .ref q :: r, ho =>
    obtain ⟨t, z, f, h1, h2, h3, h4⟩ := ho
    have ht : t = 0 := h2
    subst ht
    exact va_iast hx hb hK hP hD hS q 0 (wl_get h1) (tys_get (by decide)) h3 hd (fun H1 locs1 hP1 hD1 hS1 => by
      rw [show (Pad π q, (.inl (π.2.1 0, z, .inl (upd f j.toNatClampNeg x)) : va_E)) = (Pad π q, tE (Pad π) π.2.1 (.inl (0, z, .inl (upd f j.toNatClampNeg x)))) from rfl, wl_up] at hP1 hD1
      exact hk.at h4 hn ⟨hP1, hD1, hS1, hN⟩ hl)
theorem so_bst (C : CTX π own cc nL nb p s m args c) (hk : KS π p l e R s m args below meth c QQ nL pcs k) (hd : decode cc (pcs i) = .ok (J, n)) (hj : pcs (i + 1) = pcs i + n ∧ J = arJ 26 ∧ n = 1) (ho : opISt k 1 w uc us i lo st) (hI : InvW π w s H locs) (hl : LH π ls nL lo) :
    W p l e R s m args below meth c H locs uc us QQ (F0 m (pcs i) ls (st.map (tV (Pad π)))) := by
  obtain ⟨hx, hb, hml, hown, hts, hK, hF, hsz, hnb⟩ := C
  obtain ⟨hn, rfl, rfl⟩ := hj
  obtain ⟨hP, hD, hS, hN⟩ := id hI
  match st, ho with
  | .int x :: .int j :: .ref q :: r, ho =>
    obtain ⟨t, z, f, h1, h2, h3, h4⟩ := ho
    have ht : t = 2 ∨ t = 3 := h2
    rcases ht with rfl | rfl
    · exact va_bast hx hb hK hP hD hS q 2 (wl_get h1) (tys_get (by decide)) h3 hd (fun H1 locs1 hP1 hD1 hS1 => by
      rw [show (Pad π q, (.inl (π.2.1 2, z, .inl (upd f j.toNatClampNeg (vp_nar .byte x))) : va_E)) = (Pad π q, tE (Pad π) π.2.1 (.inl (2, z, .inl (upd f j.toNatClampNeg (vp_nar .byte x))))) from rfl, wl_up] at hP1 hD1
      exact hk.at h4 hn ⟨hP1, hD1, hS1, hN⟩ hl)
    · exact va_zast hx hb hK hP hD hS q 3 (wl_get h1) (tys_get (by decide)) h3 hd (fun H1 locs1 hP1 hD1 hS1 => by
      rw [show (Pad π q, (.inl (π.2.1 3, z, .inl (upd f j.toNatClampNeg (vp_nar .boolean x))) : va_E)) = (Pad π q, tE (Pad π) π.2.1 (.inl (3, z, .inl (upd f j.toNatClampNeg (vp_nar .boolean x))))) from rfl, wl_up] at hP1 hD1
      exact hk.at h4 hn ⟨hP1, hD1, hS1, hN⟩ hl)
theorem so_lld (C : CTX π own cc nL nb p s m args c) (hk : KS π p l e R s m args below meth c QQ nL pcs k) (hd : decode cc (pcs i) = .ok (J, n)) (hj : pcs (i + 1) = pcs i + n ∧ J = arJ 27 ∧ n = 1) (ho : opLLd k w uc us i lo st) (hI : InvW π w s H locs) (hl : LH π ls nL lo) :
    W p l e R s m args below meth c H locs uc us QQ (F0 m (pcs i) ls (st.map (tV (Pad π)))) := by
  obtain ⟨hx, hb, hml, hown, hts, hK, hF, hsz, hnb⟩ := C
  obtain ⟨hn, rfl, rfl⟩ := hj
  obtain ⟨hP, hD, hS, hN⟩ := id hI
  match st, ho with
  | .int j :: .ref q :: r, ho =>
    obtain ⟨z, f, h1, h3, h4⟩ := ho
    exact va_lald hx hb hK hP q 1 (wl_get h1) (tys_get (by decide)) h3 hd (hk.at h4 hn hI hl)
theorem so_lst (C : CTX π own cc nL nb p s m args c) (hk : KS π p l e R s m args below meth c QQ nL pcs k) (hd : decode cc (pcs i) = .ok (J, n)) (hj : pcs (i + 1) = pcs i + n ∧ J = arJ 28 ∧ n = 1) (ho : opLSt k w uc us i lo st) (hI : InvW π w s H locs) (hl : LH π ls nL lo) :
    W p l e R s m args below meth c H locs uc us QQ (F0 m (pcs i) ls (st.map (tV (Pad π)))) := by
  obtain ⟨hx, hb, hml, hown, hts, hK, hF, hsz, hnb⟩ := C
  obtain ⟨hn, rfl, rfl⟩ := hj
  obtain ⟨hP, hD, hS, hN⟩ := id hI
  match st, ho with
  | .long x :: .int j :: .ref q :: r, ho =>
    obtain ⟨z, f, h1, h3, h4⟩ := ho
    exact va_last hx hb hK hP hD hS q 1 (wl_get h1) (tys_get (by decide)) h3 hd (fun H1 locs1 hP1 hD1 hS1 => by
      rw [show (Pad π q, (.inl (π.2.1 1, z, .inr (.inl (vp_updL f j.toNatClampNeg x))) : va_E)) = (Pad π q, tE (Pad π) π.2.1 (.inl (1, z, .inr (.inl (vp_updL f j.toNatClampNeg x))))) from rfl, wl_up] at hP1 hD1
      exact hk.at h4 hn ⟨hP1, hD1, hS1, hN⟩ hl)
theorem tyT_obj {t : Nat} (h : 4 ≤ t ∧ t < nTy) : ∃ D, tyT t = .object D := by
  obtain ⟨h1, h2⟩ := h
  have h3 : nTy = 8 := rfl
  rcases (show t = 4 ∨ t = 5 ∨ t = 6 ∨ t = 7 by omega) with rfl | rfl | rfl | rfl <;> exact ⟨_, rfl⟩

theorem so_ald (C : CTX π own cc nL nb p s m args c) (hk : KS π p l e R s m args below meth c QQ nL pcs k) (hd : decode cc (pcs i) = .ok (J, n)) (hj : pcs (i + 1) = pcs i + n ∧ J = arJ 29 ∧ n = 1) (ho : opALd k w uc us i lo st) (hI : InvW π w s H locs) (hl : LH π ls nL lo) :
    W p l e R s m args below meth c H locs uc us QQ (F0 m (pcs i) ls (st.map (tV (Pad π)))) := by
  obtain ⟨hx, hb, hml, hown, hts, hK, hF, hsz, hnb⟩ := C
  obtain ⟨hn, rfl, rfl⟩ := hj
  obtain ⟨hP, hD, hS, hN⟩ := id hI
  match st, ho with
  | .int j :: .ref q :: r, ho =>
    obtain ⟨t, z, f, y, h1, h2, h3, h4, h5⟩ := ho
    obtain ⟨CC, hCC⟩ := tyT_obj h2
    refine va_aldq hx hb hK hP q t (wl_get h1) (by rw [tys_get h2.2, hCC]) h3 hd ?_
    have kk := hk.at h5 hn hI hl
    rw [show va_rf ((f j.toNatClampNeg).map (Pad π)) = Value.ref (Pad π y) by rw [h4]; rfl]
    exact kk
theorem so_ast (C : CTX π own cc nL nb p s m args c) (hk : KS π p l e R s m args below meth c QQ nL pcs k) (hd : decode cc (pcs i) = .ok (J, n)) (hj : pcs (i + 1) = pcs i + n ∧ J = arJ 30 ∧ n = 1) (ho : opASt k w uc us i lo st) (hI : InvW π w s H locs) (hl : LH π ls nL lo) :
    W p l e R s m args below meth c H locs uc us QQ (F0 m (pcs i) ls (st.map (tV (Pad π)))) := by
  obtain ⟨hx, hb, hml, hown, hts, hK, hF, hsz, hnb⟩ := C
  obtain ⟨hn, rfl, rfl⟩ := hj
  obtain ⟨hP, hD, hS, hN⟩ := id hI
  match st, ho with
  | .ref y :: .int j :: .ref q :: r, ho =>
    obtain ⟨t, z, f, ci, vs, CC, h1, h2, h3, h5, h6, h7, h4⟩ := ho
    cases hcl : vwCl[ci]? with
    | none => rw [hcl] at h5; cases h5
    | some r9 =>
      rw [hcl] at h5
      have h5' : r9.1 = CC := Option.some.inj h5
      refine va_astq hx hb hK hP hD hS q t y ci (wl_get h1) (by rw [tys_get h2.2, h3, h5']) (wl_get h6) hcl h7 hd (fun H1 locs1 hP1 hD1 hS1 => ?_)
      have e9 : tE (Pad π) π.2.1 (.inl (t, z, .inr (.inr (.inr (.inr (va_up f j.toNatClampNeg (some y))))))) = .inl (π.2.1 t, z, .inr (.inr (.inr (.inr (va_up (fun j9 => (f j9).map (Pad π)) j.toNatClampNeg (some (Pad π y))))))) := by
        have e8 : (fun j9 => (va_up f j.toNatClampNeg (some y) j9).map (Pad π)) = va_up (fun j9 => (f j9).map (Pad π)) j.toNatClampNeg (some (Pad π y)) := by
          funext j9
          unfold va_up
          split <;> rfl
        rw [← e8]
        rfl
      rw [← e9, wl_up] at hP1 hD1
      exact hk.at h4 hn ⟨hP1, hD1, hS1, hN⟩ hl
theorem so_getS {b : Nat} (C : CTX π own cc nL nb p s m args c) (hk : KS π p l e R s m args below meth c QQ nL pcs k) (hd : decode cc (pcs i) = .ok (J, n)) (hj : pcs (i + 1) = pcs i + n ∧ n = 3 ∧ b < 2 ∧ ∃ ix, J = .getfield ix ∧ Cond.fieldLink own ix "java/lang/String" (strF b).1 (strF b).2 ∈ WS) (ho : opGetS π.2.2.2.2 k b w uc us i lo st) (hI : InvW π w s H locs) (hl : LH π ls nL lo) :
    W p l e R s m args below meth c H locs uc us QQ (F0 m (pcs i) ls (st.map (tV (Pad π)))) := by
  obtain ⟨hx, hb, hml, hown, hts, hK, hF, hsz, hnb⟩ := C
  obtain ⟨hn, rfl, hb2, ix, rfl, hlk⟩ := hj
  obtain ⟨hP, hD, hS, hN⟩ := id hI
  match st, ho with
  | .ref q :: r, ho =>
    obtain ⟨h1, h2, h3, h4⟩ := ho
    have hq : q - FB < 100 := Nat.sub_lt_left_of_lt_add h1 h2
    obtain ⟨a1, a2, a3⟩ := hF.2.2.1 _ hq h3
    rcases (show b = 0 ∨ b = 1 by omega) with rfl | rfl
    · refine vk_getf hx hb (q := Pad π q) (by rw [Pad_fx h1]; exact a3) hS hown (hts _ hlk) (fun x h => h) hd ?_
      have kk := hk.at h4 hn hI hl
      have e1 : Pad π (q + 100) = π.2.2.2.1 (q - FB + 100) := by rw [Pad_fx (Nat.le_trans h1 (Nat.le_add_right _ _)), Nat.sub_add_comm h1]
      rw [← e1]
      exact kk
    · exact vk_getf hx hb (q := Pad π q) (by rw [Pad_fx h1]; exact a2) hS hown (hts _ hlk) (fun x h => h) hd (hk.at h4 hn hI hl)
theorem so_gst {a : Nat} (C : CTX π own cc nL nb p s m args c) (hk : KS π p l e R s m args below meth c QQ nL pcs k) (hd : decode cc (pcs i) = .ok (J, n)) (hj : pcs (i + 1) = pcs i + n ∧ n = 3 ∧ a < 4 ∧ ∃ ix, J = .getstatic ix ∧ Cond.fieldLink own ix (stT a).1 (stT a).2.1 (stT a).2.2 ∈ WS) (ho : k w uc us (i + 1) lo (π.2.2.2.2.2 a :: st)) (hI : InvW π w s H locs) (hl : LH π ls nL lo) :
    W p l e R s m args below meth c H locs uc us QQ (F0 m (pcs i) ls (st.map (tV (Pad π)))) := by
  obtain ⟨hx, hb, hml, hown, hts, hK, hF, hsz, hnb⟩ := C
  obtain ⟨hn, rfl, ha, ix, rfl, hlk⟩ := hj
  obtain ⟨hP, hD, hS, hN⟩ := id hI
  exact va_gets hx hb (hF.2.2.2.1 a ha) hS hown (hts _ hlk) (fun x h => h) hd (hk.at ho hn hI hl)
end SOPS
end
section
/-! soundness of the instructions: new things, texts, copies -/
section SOPS
variable {π : aP} {p : Program} {l : Launch} {e : Env} {R : Room} {s : State} {m : MethodId} {args : Array Value} {below : List Frame} {meth : Method} {c : Code} {QQ : State → Prop}
variable {own : String} {cc : ByteArray} {nL nb : Nat} {pcs : Nat → Nat} {k : aK} {w : aW} {uc us i : Nat} {lo : List (Option Value)} {st : List Value} {H : Heap} {locs : List Loc} {ls : Array Slot} {J : Instr} {n : Nat} {I : aInfo}
theorem W.size9 {cells slots : Nat} {g : JFrame} (k : H.size ≤ s.heap.size + cells → W p l e R s m args below meth c H locs cells slots QQ g) : W p l e R s m args below meth c H locs cells slots QQ g := by
  intro T hT X
  exact k (by rw [← hT]; exact X.heapSize) T hT X
/-- at a new thing its address is known -/
theorem InvW.size (hnb : nb < N0 → s.heap.size = π.2.2.1 + nb) (hI : InvW π w s H locs) (hsz : π.2.2.1 ≤ s.heap.size) (h1 : w.1 < N0) (h2 : w.1 = nb + uc) (h3 : H.size ≤ s.heap.size + uc) : H.size = Pad π w.1 ∧ PA π H.size := by
  have h4 := hI.lo hsz
  have h5 := hnb (by omega)
  have h6 : Pad π w.1 = π.2.2.1 + w.1 := Pad_lo (by have := N0_FB; omega)
  refine ⟨by omega, ?_⟩
  show π.2.2.1 ≤ H.size
  omega
theorem PA_up (hsz : π.2.2.1 ≤ s.heap.size) : ∀ q, s.heap.size ≤ q → PA π q := fun q hq => Nat.le_trans hsz hq
theorem cls_new9 : (vwCl.all fun q => decide (Cond.instantiable q.1 q.2.2 ∈ lw_tbl) && goodWord (Cond.instantiable q.1 q.2.2) && decide (Cond.initialized q.1 ∈ lw_tbl)) = true := by decide +kernel
theorem cls_new {ci : Nat} {C : String} {T : u_T} {N : Nat} (h : vwCl[ci]? = some (C, T, N)) : Cond.instantiable C N ∈ WS ∧ Cond.initialized C ∈ WS := by
  have h1 := List.all_eq_true.mp cls_new9 _ (List.mem_of_getElem? h)
  simp only [Bool.and_eq_true, decide_eq_true_eq] at h1
  exact ⟨List.mem_filter.mpr ⟨h1.1.1, h1.1.2⟩, List.mem_filter.mpr ⟨h1.2, rfl⟩⟩
theorem nfA_of {ci : Nat} {C : String} {T : u_T} {N : Nat} (h : vwCl[ci]? = some (C, T, N)) : nfA ci = N := by simp [nfA, h]
theorem tV_def {ad : Nat → Nat} {ty : FieldType} : tV ad (defaultValue ty) = defaultValue ty := by cases ty <;> rfl
theorem dfA_tV {ad : Nat → Nat} {ci : Nat} : (dfA ci).map (tV ad) = dfA ci := by
  unfold dfA
  rw [List.map_map]
  apply List.map_congr_left
  intro b _
  exact tV_def
theorem so_new {a : Nat} (hR : R.cells = I.1 ∧ R.slots = I.2.1) (C : CTX π own cc nL nb p s m args c) (hk : KS π p l e R s m args below meth c QQ nL pcs k) (hd : decode cc (pcs i) = .ok (J, n)) (hj : pcs (i + 1) = pcs i + n ∧ ∃ ix C T N, J = .new ix ∧ n = 3 ∧ vwCl[a]? = some (C, T, N) ∧ Cond.classLink own ix C ∈ WS) (ho : opNew I k nb a (nfA a) (dfA a) w uc us i lo st) (hI : InvW π w s H locs) (hl : LH π ls nL lo) :
    W p l e R s m args below meth c H locs uc us QQ (F0 m (pcs i) ls (st.map (tV (Pad π)))) := by
  obtain ⟨hx, hb, hml, hown, hts, hK, hF, hsz, hnb⟩ := C
  obtain ⟨hn, ix, CC, T, N, rfl, rfl, hc, hlk⟩ := hj
  obtain ⟨h1, h2, h3, h4, h5⟩ := ho
  refine W.size9 fun h6 => ?_
  obtain ⟨h7, h8⟩ := hI.size hnb hsz h1 h2 h6
  obtain ⟨hP, hD, hS, hN⟩ := id hI
  obtain ⟨hi1, hi2⟩ := cls_new hc
  have hKn := hK.1 a _ hc
  have hN9 := nfA_of hc
  rw [hN9] at h4 h5
  refine W.newcK hx hb hown (hts _ hlk) (hts _ hi1) (hts _ hi2) rfl hd (by rw [hR.1]; exact h3) (by rw [hR.2]; exact h4) hKn.2.1 rfl fun H1 kC hkC e1 z1 o1 => ?_
  have hk9 : ∀ (k : Nat) (x : Nat × va_E), (wl π w)[k]? = some x → H1[x.1]? = H[x.1]? := fun k x hx => o1 x.1 ((hP k x hx).lt)
  have hP1 : va_P π.1 vwCl (wl π w ++ [(H.size, .inr (a, (dfA a).map (tV (Pad π))))]) H1 := (hP.kept hk9).app (fun k x hx => by
    have hz : k < 1 := (List.getElem?_eq_some_iff.mp hx).1
    rw [show k = 0 by omega] at hx
    cases hx
    refine ⟨_, hc, (u_born (ftyA a) hts (cls_in hc) hKn hkC e1 (cls_ty hc)).to (fun j hj => ?_)⟩
    rw [dfA_tV]
    simp [vp_V, dfA, hN9, List.getElem?_range hj])
  have hD1 : va_D (PA π) (wl π w ++ [(H.size, .inr (a, (dfA a).map (tV (Pad π))))]) := hD.push hP rfl h8
  have hS1 : va_S (PA π) s.heap H1 locs := ⟨Nat.le_trans hS.1 (by omega), fun x h1 h2 => (o1 x (Nat.lt_of_lt_of_le h1 hS.1)).trans (hS.2.1 x h1 h2), hS.2.2⟩
  rw [h7, show (Pad π w.1, (Sum.inr (a, (dfA a).map (tV (Pad π))) : va_E)) = (Pad π w.1, tE (Pad π) π.2.1 (.inr (a, dfA a))) from rfl, wl_new] at hP1 hD1
  have kk := hk.at h5 hn (⟨hP1, hD1, hS1, by show w.1 + 1 ≤ N0; omega⟩ : InvW π _ s H1 locs) hl
  rw [show (H.size : Nat) = Pad π w.1 from h7]
  exact kk
theorem so_newa {a : Nat} (hR : R.cells = I.1 ∧ R.slots = I.2.1) (C : CTX π own cc nL nb p s m args c) (hk : KS π p l e R s m args below meth c QQ nL pcs k) (hd : decode cc (pcs i) = .ok (J, n)) (hj : pcs (i + 1) = pcs i + n ∧ ((a < 4 ∧ ∃ at9, J = .newarray at9 ∧ n = 2 ∧ newarray.typeOf at9 = tyT a ∧ Cond.arrayClass (tyT a) ∈ WS) ∨ (4 ≤ a ∧ a < nTy ∧ ∃ ix C, J = .anewarray ix ∧ n = 3 ∧ tyT a = .object C ∧ Cond.classLink own ix C ∈ WS))) (ho : opNewA I k nb a w uc us i lo st) (hI : InvW π w s H locs) (hl : LH π ls nL lo) :
    W p l e R s m args below meth c H locs uc us QQ (F0 m (pcs i) ls (st.map (tV (Pad π)))) := by
  obtain ⟨hx, hb, hml, hown, hts, hK, hF, hsz, hnb⟩ := C
  match st, ho with
  | .int z :: r, ho =>
    obtain ⟨g1, g2, h1, h2, h3, h4, h5⟩ := ho
    refine W.size9 fun h6 => ?_
    obtain ⟨h7, h8⟩ := hI.size hnb hsz h1 h2 h6
    obtain ⟨hP, hD, hS, hN⟩ := id hI
    obtain ⟨hn, hj | hj⟩ := hj
    · obtain ⟨ha, at9, rfl, rfl, hty, hw⟩ := hj
      have harr : (Cond.arrayClass (newarray.typeOf at9)).before args s = true := by rw [hty]; exact hts _ hw
      have hcb : z.toNatClampNeg * componentBytes (newarray.typeOf at9) ≤ 536870912 := by
        have : componentBytes (newarray.typeOf at9) ≤ 8 := by cases at9 <;> decide
        calc z.toNatClampNeg * componentBytes (newarray.typeOf at9) ≤ 1000000 * 8 := Nat.mul_le_mul g2 this
          _ ≤ 536870912 := by decide
      refine va_newaK hx hb harr rfl hd rfl g1 rfl hcb (by rw [hR.1]; exact h3) (by rw [hR.2]; exact h4) rfl fun H1 cA e1 z1 o1 hAr hNm => ?_
      have hk9 : ∀ (k : Nat) (x : Nat × va_E), (wl π w)[k]? = some x → H1[x.1]? = H[x.1]? := fun k x hx => o1 x.1 ((hP k x hx).lt)
      have hS1 : va_S (PA π) s.heap H1 locs := ⟨Nat.le_trans hS.1 (by omega), fun x h1 h2 => (o1 x (Nat.lt_of_lt_of_le h1 hS.1)).trans (hS.2.1 x h1 h2), hS.2.2⟩
      have hcA : cA = π.2.1 a := by
        have h9 := (hK.2 a _ (tys_get (show a < nTy from Nat.lt_trans ha (by decide)))).2
        rw [hty] at hNm
        rcases (show a = 0 ∨ a = 1 ∨ a = 2 ∨ a = 3 by omega) with rfl | rfl | rfl | rfl <;> exact Option.some.inj (hNm.symm.trans h9)
      rw [hcA] at e1
      have hfin : ∀ e9 : va_E, tE (Pad π) π.2.1 e9 = e9 → True := fun _ _ => trivial
      have go : ∀ a0 : va_E, va_at π.1 vwCl (H.size, tE (Pad π) π.2.1 a0) H1 → k (aNew w a0) (uc + 1) (us + z.toNatClampNeg) (i + 1) lo (.ref w.1 :: r) → W p l e R s m args below meth c H1 locs (uc + 1) (us + z.toNatClampNeg) QQ (F0 m (pcs i + 2) ls (.ref H.size :: r.map (tV (Pad π)))) := by
        intro a0 hat hk0
        have hP1 : va_P π.1 vwCl (wl π w ++ [(H.size, tE (Pad π) π.2.1 a0)]) H1 := (hP.kept hk9).app (fun k x hx => by
          have hz : k < 1 := (List.getElem?_eq_some_iff.mp hx).1
          rw [show k = 0 by omega] at hx
          cases hx
          exact hat)
        have hD1 : va_D (PA π) (wl π w ++ [(H.size, tE (Pad π) π.2.1 a0)]) := hD.push hP rfl h8
        rw [h7, wl_new] at hP1 hD1
        have kk := hk.at hk0 hn (⟨hP1, hD1, hS1, by show w.1 + 1 ≤ N0; omega⟩ : InvW π _ s H1 locs) hl
        rw [show (H.size : Nat) = Pad π w.1 from h7]
        exact kk
      rw [hty] at e1
      rcases (show a = 0 ∨ a = 1 ∨ a = 2 ∨ a = 3 by omega) with rfl | rfl | rfl | rfl
      · exact go (.inl (0, z.toNatClampNeg, .inl (fun _ => 0))) e1 h5
      · exact go (.inl (1, z.toNatClampNeg, .inr (.inl (fun _ => 0)))) e1 h5
      · exact go (.inl (2, z.toNatClampNeg, .inl (fun _ => 0))) e1 h5
      · exact go (.inl (3, z.toNatClampNeg, .inl (fun _ => 0))) e1 h5
    · obtain ⟨ha, ha8, ix, CC, rfl, rfl, hty, hw⟩ := hj
      refine W.anew hx hb hown (hts _ hw) (va_AO.use (hF.2.2.2.2.2.2.2 a CC ha ha8 hty)) rfl hd rfl g1 (Nat.le_trans (Nat.mul_le_mul g2 (Nat.le_refl 4)) (by decide)) (by rw [hR.1]; exact h3) (by rw [hR.2]; exact h4) fun cA kA comp f1 f2 f3 f4 => ?_
      generalize hH1 : H.push ({ cls := cA, slots := Array.replicate z.toNatClampNeg .null, vm := .none } : Cell) = H1
      have z1 : H1.size = H.size + 1 := by rw [← hH1, Array.size_push]
      have e1 : H1[H.size]? = some (arrV cA z.toNatClampNeg (fun _ => .null)) := by rw [← hH1, Array.getElem?_push_size, ← arrV_new]
      have o1 : ∀ q : Nat, q < H.size → H1[q]? = H[q]? := fun q hq => by rw [← hH1, Array.getElem?_push, if_neg (Nat.ne_of_lt hq)]
      have hk9 : ∀ (k : Nat) (x : Nat × va_E), (wl π w)[k]? = some x → H1[x.1]? = H[x.1]? := fun k x hx => o1 x.1 ((hP k x hx).lt)
      have hS1 : va_S (PA π) s.heap H1 locs := ⟨Nat.le_trans hS.1 (by omega), fun x h1 h2 => (o1 x (Nat.lt_of_lt_of_le h1 hS.1)).trans (hS.2.1 x h1 h2), hS.2.2⟩
      have hcA : cA = π.2.1 a := by
        have h9 := (hK.2 a _ (tys_get ha8)).2
        dsimp only at h9
        rw [hty] at h9
        obtain ⟨-, -, -, -, -, h10⟩ := h9
        exact Option.some.inj (f1.symm.trans h10)
      rw [hcA] at e1
      have hP1 : va_P π.1 vwCl (wl π w ++ [(H.size, tE (Pad π) π.2.1 (.inl (a, z.toNatClampNeg, .inr (.inr (.inr (.inr (fun _ => none)))))))]) H1 := (hP.kept hk9).app (fun k x hx => by
        have hz : k < 1 := (List.getElem?_eq_some_iff.mp hx).1
        rw [show k = 0 by omega] at hx
        cases hx
        exact e1)
      have hD1 : va_D (PA π) (wl π w ++ [(H.size, tE (Pad π) π.2.1 (.inl (a, z.toNatClampNeg, .inr (.inr (.inr (.inr (fun _ => none)))))))]) := hD.push hP rfl h8
      rw [h7, wl_new] at hP1 hD1
      have h5' : k (aNew w (.inl (a, z.toNatClampNeg, .inr (.inr (.inr (.inr (fun _ => none))))))) (uc + 1) (us + z.toNatClampNeg) (i + 1) lo (.ref w.1 :: r) := by
        have h3' : nTy = 8 := rfl
        rcases (show a = 4 ∨ a = 5 ∨ a = 6 ∨ a = 7 by omega) with rfl | rfl | rfl | rfl <;> exact h5
      have kk := hk.at h5' hn (⟨hP1, hD1, hS1, by show w.1 + 1 ≤ N0; omega⟩ : InvW π _ s H1 locs) hl
      show W p l e R s m args below meth c H1 locs (uc + 1) (us + z.toNatClampNeg) QQ (F0 m (pcs i + 3) ls (.ref H.size :: r.map (tV (Pad π))))
      rw [show (H.size : Nat) = Pad π w.1 from h7]
      exact kk
theorem cpy_9 : [Cond.native arraycopyName, Cond.static arraycopyName, Cond.initialized "java/lang/System", Cond.instanceMethod objectInit, Cond.code objectInit ⟨#[0xb1]⟩ 1 none].all (fun w => decide (w ∈ lw_tbl) && goodWord w) = true := by decide +kernel
theorem cpy_at {w : Cond} (i : Nat) (h : [Cond.native arraycopyName, Cond.static arraycopyName, Cond.initialized "java/lang/System", Cond.instanceMethod objectInit, Cond.code objectInit ⟨#[0xb1]⟩ 1 none][i]? = some w) : w ∈ WS := by
  have h1 := List.all_eq_true.mp cpy_9 _ (List.mem_of_getElem? h)
  simp only [Bool.and_eq_true, decide_eq_true_eq] at h1
  exact List.mem_filter.mpr h1
theorem cpy_n : Cond.native arraycopyName ∈ WS := cpy_at 0 rfl
theorem cpy_s : Cond.static arraycopyName ∈ WS := cpy_at 1 rfl
theorem cpy_i : Cond.initialized "java/lang/System" ∈ WS := cpy_at 2 rfl
theorem obj_i : Cond.instanceMethod objectInit ∈ WS := cpy_at 3 rfl
theorem obj_c : Cond.code objectInit ⟨#[0xb1]⟩ 1 none ∈ WS := cpy_at 4 rfl
theorem so_cpy (hR : 1 ≤ R.frames ∧ 100 ≤ R.locals) (C : CTX π own cc nL nb p s m args c) (hk : KS π p l e R s m args below meth c QQ nL pcs k) (hd : decode cc (pcs i) = .ok (J, n)) (hj : pcs (i + 1) = pcs i + n ∧ n = 3 ∧ ∃ ix, J = .invokestatic ix ∧ Cond.methodLink own ix arraycopyName ∈ WS) (ho : opCpy k w uc us i lo st) (hI : InvW π w s H locs) (hl : LH π ls nL lo) :
    W p l e R s m args below meth c H locs uc us QQ (F0 m (pcs i) ls (st.map (tV (Pad π)))) := by
  obtain ⟨hx, hb, hml, hown, hts, hK, hF, hsz, hnb⟩ := C
  obtain ⟨hn, rfl, ix, rfl, hlk⟩ := hj
  obtain ⟨hP, hD, hS, hN⟩ := id hI
  match st, ho with
  | .int z :: .int dp :: .ref q1 :: .int sp :: .ref q0 :: r, ho =>
    obtain ⟨n0, f, n1, f1, h0, h1, hst, g1, g2, g3, g4, g5, h4⟩ := ho
    refine va_copyi hx hb (by rw [hml, hl.1]) hown (hts _ hlk) (hts _ cpy_n) (hts _ cpy_s) (hts _ cpy_i) hK hP hD hS q0 q1 0 0 (wl_get h0) (wl_get h1) (tys_get (by decide)) (tys_get (by decide)) rfl g1 g2 g3 g4 g5 (fun _ _ => rfl) hR.1 ?_ hd (fun H1 locs1 hP1 hD1 hS1 => ?_)
    · have e1 : (r.map (tV (Pad π))).map (fun v => v.category) = r.map (fun v => v.category) := by
        rw [List.map_map]
        apply List.map_congr_left
        intro v _
        exact tV_cat _ v
      rw [e1]
      have e2 : nativeFrameWords "java/lang/System" "arraycopy" 5 ≤ 60 := by decide +kernel
      have e3 : (r.map fun v => v.category).sum ≤ 8 := hst
      omega
    · rw [show (Pad π q1, (Sum.inl (π.2.1 0, n1, .inl (va_cpy f f1 sp.toNatClampNeg dp.toNatClampNeg z.toNatClampNeg)) : va_E)) = (Pad π q1, tE (Pad π) π.2.1 (.inl (0, n1, .inl (va_cpy f f1 sp.toNatClampNeg dp.toNatClampNeg z.toNatClampNeg)))) from rfl, wl_up] at hP1 hD1
      exact hk.at h4 hn ⟨hP1, hD1, hS1, hN⟩ hl
theorem so_obj (hR : 1 ≤ R.frames ∧ 100 ≤ R.locals) (C : CTX π own cc nL nb p s m args c) (hk : KS π p l e R s m args below meth c QQ nL pcs k) (hd : decode cc (pcs i) = .ok (J, n)) (hj : pcs (i + 1) = pcs i + n ∧ n = 3 ∧ ∃ ix, J = .invokespecial ix ∧ Cond.methodLink own ix objectInit ∈ WS) (ho : opObj k w uc us i lo st) (hI : InvW π w s H locs) (hl : LH π ls nL lo) :
    W p l e R s m args below meth c H locs uc us QQ (F0 m (pcs i) ls (st.map (tV (Pad π)))) := by
  obtain ⟨hx, hb, hml, hown, hts, hK, hF, hsz, hnb⟩ := C
  obtain ⟨hn, rfl, ix, rfl, hlk⟩ := hj
  match st, ho with
  | .ref q :: r, ho =>
    refine W.objInit hx hb hown (hts _ hlk) (hts _ obj_i) (hts _ obj_c) rfl (by rw [hml]; exact hl.1) rfl hd hR.1 ?_ (hk.at ho.2 hn hI hl)
    have e1 : (r.map (tV (Pad π))).map (fun v => v.category) = r.map (fun v => v.category) := by
      rw [List.map_map]
      apply List.map_congr_left
      intro v _
      exact tV_cat _ v
    have e3 : (r.map fun v => v.category).sum ≤ 8 := ho.1
    show 2 * 0 + ((r.map (tV (Pad π))).map fun v => v.category).sum + 12 ≤ R.locals
    rw [e1]
    omega
theorem so_str {a : Nat} (C : CTX π own cc nL nb p s m args c) (hk : KS π p l e R s m args below meth c QQ nL pcs k) (hd : decode cc (pcs i) = .ok (J, n)) (hj : pcs (i + 1) = pcs i + n ∧ ∃ ix text, (own, ix, text, a) ∈ strTab ∧ a < 100 ∧ ((J = .ldc ix ∧ n = 2) ∨ (J = .ldc_w ix ∧ n = 3))) (ho : k w uc us (i + 1) lo (.ref (FB + a) :: st)) (hI : InvW π w s H locs) (hl : LH π ls nL lo) :
    W p l e R s m args below meth c H locs uc us QQ (F0 m (pcs i) ls (st.map (tV (Pad π)))) := by
  obtain ⟨hx, hb, hml, hown, hts, hK, hF, hsz, hnb⟩ := C
  obtain ⟨hn, ix, text, hm, ha, hj⟩ := hj
  obtain ⟨sa, h1, h2⟩ := hF.2.2.2.2.1 _ hm
  have h3 : sa = Pad π (FB + a) := by rw [Pad_hi]; exact h2 ha
  subst h3
  have kk := hk.at ho hn hI hl
  rcases hj with ⟨rfl, rfl⟩ | ⟨rfl, rfl⟩
  · exact va_ldcS hx hb hown h1 hd kk
  · intro T hT X
    obtain ⟨t, a1, b1⟩ := kk T hT X
    exact ⟨t, X.ldcStringW hx hown (text := text) (a := Pad π (FB + a)) h1.1 h1.2 (g := F0 m (pcs i) ls (st.map (tV (Pad π)))) rfl (by rw [hb]; exact hd) t a1, b1⟩
end SOPS
end
section
/-! soundness: contracts, calls, catches -/
def rmD (d mc ms : Nat) : Room := { frames := 8 + d, cells := mc, slots := ms, locals := 200 + 60 * d }
def WdS (π : aP) (w : aW) (U : State) : Prop := va_P π.1 vwCl (wl π w) U.heap ∧ va_D (PA π) (wl π w) ∧ va_K π.1 vwCl (tysL π) U ∧ FxS π U U.heap ∧ w.1 ≤ N0 ∧ π.2.2.1 ≤ U.heap.size ∧ (w.1 < N0 → U.heap.size = π.2.2.1 + w.1)
def QcA (π : aP) (Qr : Option Value → aW → Prop) : Array Value → State → Outcome → State → Prop := fun _ st o t => (∃ (v : Option Value) (w' : aW), o = .returned (v.map (tV (Pad π))) ∧ Qr v w' ∧ va_P π.1 vwCl (wl π w') t.heap ∧ va_D (PA π) (wl π w') ∧ w'.1 ≤ N0) ∧ va_F (PA π) st t
def XcA (π : aP) (Qx : String → aW → Prop) : String → State → State → Prop := fun E st t => (∃ w' : aW, Qx E w' ∧ va_P π.1 vwCl (wl π w') t.heap ∧ va_D (PA π) (wl π w') ∧ w'.1 ≤ N0) ∧ va_F (PA π) st t
def PcA (π : aP) (av : List Value) (w : aW) : Array Value → State → Prop := va_Pc (av.map (tV (Pad π))) (WdS π w)
/-- a method's contract at depth d -/
def MA (l : Launch) (π : aP) (d mid : Nat) (av : List Value) (w : aW) (Qr : Option Value → aW → Prop) (Qx : String → aW → Prop) : Prop :=
  vx_Met l (yOf mid) (codeW mid :: WS) (rmD d (mbOf mid).1 (mbOf mid).2) (PcA π av w) (QcA π Qr) (XcA π Qx) (mbOf mid).1 (mbOf mid).2 (PA π)
theorem PcA_blind {π : aP} {av : List Value} {w : aW} : FrameBlind (PcA π av w) := by
  intro a U g mk h
  obtain ⟨h1, h2, h3, h4, h5, h6, h7, h8⟩ := h
  exact ⟨h1, h2, h3, va_K.moved (u := U) (U := U.calling g mk a) (Vm.Alike.refl U.vm) h4, h5.to (State.WarmedH.refl U) (fun _ _ _ => rfl), h6, h7, h8⟩
section SCALL
variable {π : aP} {p : Program} {l : Launch} {e : Env} {R : Room} {s : State} {m : MethodId} {args : Array Value} {below : List Frame} {meth : Method} {c : Code} {QQ : State → Prop}
variable {own : String} {cc : ByteArray} {nL nb : Nat} {pcs : Nat → Nat} {k : aK} {w : aW} {uc us i : Nat} {lo : List (Option Value)} {st : List Value} {H : Heap} {locs : List Loc} {ls : Array Slot} {J : Instr} {n : Nat} {I : aInfo}
theorem PcA_pre (C : CTX π own cc nL nb p s m args c) (hI : InvW π w s H locs) (hw : w.1 = N0 ∨ w.1 = nb + uc) (h6 : H.size ≤ s.heap.size + uc) (as : List Value) : ∀ U : State, U.heap = H → s.WarmedH U.vm → PcA π as w (as.map (tV (Pad π))).toArray U := by
  intro U hU hW
  obtain ⟨hx, hb, hml, hown, hts, hK, hF, hsz, hnb⟩ := C
  have hlo := hI.lo hsz
  obtain ⟨hP, hD, hS, hN⟩ := hI
  refine ⟨rfl, by rw [hU]; exact hP, hD, va_K.moved hW.alike hK, by rw [hU]; exact hF.to hW hS.2.1, hN, by rw [hU]; exact Nat.le_trans hsz hS.1, fun h => ?_⟩
  rw [hU]
  rcases hw with h9 | h9
  · omega
  · have := hnb (by omega)
    omega
theorem so_run {mc ms : Nat} {a9 : Array Value} {stC rest : List Value} {Qr' : Option Value → aW → Prop} {Qx' : String → aW → Prop} (hsz : π.2.2.1 ≤ s.heap.size)
    (hr : vx_Run p l e R s m args below meth c H locs uc us mc ms (F0 m (pcs i) ls stC) (rest.map (tV (Pad π))) (QcA π Qr' a9) (XcA π Qx') (PA π)) (hI : InvW π w s H locs)
    (kr : ∀ v w', Qr' v w' → ∀ H1 locs1, InvW π w' s H1 locs1 → W p l e R s m args below meth c H1 locs1 (uc + mc) (us + ms) QQ (F0 m (pcs i + 3) ls ((v.toList ++ rest).map (tV (Pad π)))))
    (kx : ∀ E w', Qx' E w' → ∀ H1 locs1 q ce, InvW π w' s H1 locs1 → H1[q]? = some ce → ce.vm = .none → s.vm.findClass E = some ce.cls → vx_W p l e R s m args below meth c H1 locs1 (uc + mc) (us + ms) QQ (F0 m (pcs i) ls (rest.map (tV (Pad π)))) q) :
    W p l e R s m args below meth c H locs uc us QQ (F0 m (pcs i) ls stC) := by
  obtain ⟨hP, hD, hS, hN⟩ := hI
  intro T hT X
  rcases hr T hT X with ⟨v, st₀, t, T', L, h0, X', hL, e1, e2, ⟨⟨v', w', hv, hq, hP', hD', hN'⟩, hF⟩, st9⟩ | ⟨q, st₀, t, T', L, E, ce, h0, X', hL, e1, e2, ⟨⟨w', hq, hP', hD', hN'⟩, hF⟩, hce, hcv, hcl, st9⟩
  · cases hv
    obtain ⟨k1, k2, k3⟩ := vx_keep h0 e1 hS (fun _ _ h => h) (fun _ h => h) hL hF
    obtain ⟨t2, a1, b1⟩ := kr v' w' hq T'.heap (locs ++ L) ⟨by rw [e1]; exact hP', hD', k3, hN'⟩ T' rfl X'
    refine ⟨t2, st9 t2 ?_, b1⟩
    have e9 : (Option.map (tV (Pad π)) v').toList ++ rest.map (tV (Pad π)) = (v'.toList ++ rest).map (tV (Pad π)) := by
      cases v' <;> simp
    rw [e9]
    exact a1
  · obtain ⟨k1, k2, k3⟩ := vx_keep h0 e1 hS (fun _ _ h => h) (fun _ h => h) hL hF
    obtain ⟨t2, a1, b1⟩ := kx E w' hq T'.heap (locs ++ L) q ce ⟨by rw [e1]; exact hP', hD', k3, hN'⟩ (by rw [e1]; exact hce) hcv hcl T' rfl X'
    exact ⟨t2, st9.trans a1, b1⟩
/-- a store of a caught thing: its local is unknown then -/
theorem LH.st0 {ls' : Array Slot} {a : Nat} {x : Value} (h : LH π ls nL lo) (h' : lv_has ls' nL ((a, x) :: (prs π nL lo).filter (fun q => !(q.1 == a) && !(q.1 + 1 == a && q.2.category == 2)))) : LH π ls' nL ((clr lo a).set a none) := by
  refine ⟨h'.1, by rw [List.length_set, clr_len]; exact h.2.1, h'.2.1, fun j u hu => ?_⟩
  rw [List.getElem?_set] at hu
  split at hu
  · split at hu <;> cases hu
  · rename_i hne
    obtain ⟨h1, h2⟩ := clr_get hu
    have hj : j < nL := by
      have := (List.getElem?_eq_some_iff.mp h1).1
      rw [h.2.1] at this
      exact this
    refine h'.2.2 (j, tV (Pad π) u) (List.mem_cons_of_mem _ (List.mem_filter.mpr ⟨prs_mem.mpr ⟨hj, u, h1, rfl⟩, ?_⟩))
    have h3 : ¬ j = a := fun q => hne q.symm
    simp only [tV_cat, Bool.and_eq_true, Bool.not_eq_true', beq_eq_false_iff_ne, Bool.and_eq_false_imp, beq_iff_eq]
    refine ⟨h3, fun h4 => ?_⟩
    simpa using fun h5 => h2 ⟨h4, h5⟩
/-- the table of handlers, by places and by bytes -/
def HndOK (own : String) (pcs : Nat → Nat) (len : Nat) : List (Nat × Nat × Nat × String) → List (Nat × Nat × Nat × Nat) → Prop
  | [], [] => True
  | (a, b, h, nm) :: r, (sp, ep, hp, ct) :: r' => a ≤ len ∧ b ≤ len ∧ sp = pcs a ∧ ep = pcs b ∧ hp = pcs h ∧ ct ≠ 0 ∧ Cond.classLink own ct nm ∈ WS ∧ (∃ j, j < 4 ∧ nm = exN j) ∧ HndOK own pcs len r r'
  | _, _ => False
theorem hnd_nc (C : CTX π own cc nL nb p s m args c) {E nm : String} (hE : ∃ j, j < 4 ∧ E = exN j) (hn : ∃ j, j < 4 ∧ nm = exN j) (hne : ¬ nm = E) : va_Nc E nm s := by
  obtain ⟨hx, hb, hml, hown, hts, hK, hF, hsz, hnb⟩ := C
  obtain ⟨j, hj, rfl⟩ := hE
  obtain ⟨j2, hj2, rfl⟩ := hn
  exact hF.2.2.2.2.2.2.1 j j2 hj hj2 (fun h => hne (by rw [h]))
theorem hnd_find (C : CTX π own cc nL nb p s m args c) {len : Nat} (hmono : ∀ x y, x < y → y ≤ len → pcs x < pcs y) (hi : i < len) {E : String} {h : Nat} : ∀ (hs : List (Nat × Nat × Nat × String)) (xs : List (Nat × Nat × Nat × Nat)), HndOK own pcs len hs xs → hndA hs E i = some h →
    (∃ j, j < 4 ∧ E = exN j) ∧ ((∃ j, j < 4 ∧ E = exN j) → ∃ pre x suf, tableOf xs = pre ++ x :: suf ∧ (∀ z ∈ pre, covers z (pcs i) = false ∨ (z.catchType ≠ 0 ∧ ∃ nm : String, (Cond.classLink own z.catchType nm).before args s = true ∧ va_Nc E nm s)) ∧ covers x (pcs i) = true ∧ x.catchType ≠ 0 ∧ (Cond.classLink own x.catchType E).before args s = true ∧ x.handlerPc = pcs h) := by
  intro hs
  induction hs with
  | nil => intro xs _ h2; cases h2
  | cons q r ih =>
    intro xs h1 h2
    obtain ⟨a, b, h9, nm⟩ := q
    match xs, h1 with
    | (sp, ep, hp, ct) :: r', h1 =>
      obtain ⟨g1, g2, rfl, rfl, rfl, g3, g4, g5, g6⟩ := h1
      have mle : ∀ x y, x ≤ y → y ≤ len → pcs x ≤ pcs y := fun x y hxy hy => by
        rcases Nat.lt_or_ge x y with hlt | hge
        · exact Nat.le_of_lt (hmono x y hlt hy)
        · rw [show x = y by omega]; exact Nat.le_refl _
      unfold hndA at h2
      split at h2
      · rename_i hc
        obtain ⟨c1, c2, c3⟩ := hc
        cases h2
        subst c3
        refine ⟨g5, fun _ => ⟨[], ⟨pcs a, pcs b, pcs h, ct⟩, tableOf r', rfl, fun z hz => absurd hz List.not_mem_nil, ?_, g3, C.2.2.2.2.1 _ g4, rfl⟩⟩
        simp only [covers, Bool.and_eq_true, decide_eq_true_eq]
        exact ⟨mle a i c1 (by omega), hmono i b c2 g2⟩
      · rename_i hc
        obtain ⟨e1, e2⟩ := ih r' g6 h2
        refine ⟨e1, fun hE => ?_⟩
        obtain ⟨pre, x, suf, f1, f2, f3, f4, f5, f6⟩ := e2 hE
        refine ⟨⟨pcs a, pcs b, pcs h9, ct⟩ :: pre, x, suf, by show _ :: tableOf r' = _; rw [f1]; rfl, fun z hz => ?_, f3, f4, f5, f6⟩
        rcases List.mem_cons.mp hz with rfl | hz
        · by_cases hcov : a ≤ i ∧ i < b
          · exact Or.inr ⟨g3, nm, C.2.2.2.2.1 _ g4, hnd_nc C hE g5 (fun h => hc ⟨hcov.1, hcov.2, h⟩)⟩
          · left
            simp only [covers, Bool.and_eq_false_iff, decide_eq_false_iff_not]
            by_cases ha : a ≤ i
            · right
              have : b ≤ i := by omega
              have := mle b i this (by omega)
              omega
            · left
              have := hmono i a (by omega) g1
              omega
        · exact f2 z hz
theorem ex_cast : [0, 1, 2, 3].all (fun a => decide (Cond.castable (exN a) (exN a) ∈ lw_tbl)) = true := by decide +kernel
theorem so_catch (C : CTX π own cc nL nb p s m args c) (hk : KS π p l e R s m args below meth c QQ nL pcs k) {len : Nat} (hmono : ∀ x y, x < y → y ≤ len → pcs x < pcs y) (hi : i < len) {hs : List (Nat × Nat × Nat × String)} {xs : List (Nat × Nat × Nat × Nat)} (hok : HndOK own pcs len hs xs) (htab : c.exceptionTable.toList = tableOf xs)
    {E : String} {h a : Nat} (hf : hndA hs E i = some h) {ini : Bool} {vv : Value} {ll : List Nat} (hins : OKI own cc ini pcs h (45, a, 0, vv, ll)) (ha : a < lo.length) (ho : k w uc us (h + 1) ((clr lo a).set a none) []) (hI : InvW π w s H locs) (hl : LH π ls nL lo)
    {q : Nat} {ce : Cell} (hce : H[q]? = some ce) (hcv : ce.vm = .none) (hcl : s.vm.findClass E = some ce.cls) {rest : List Value} :
    vx_W p l e R s m args below meth c H locs uc us QQ (F0 m (pcs i) ls rest) q := by
  obtain ⟨hE, hfd⟩ := hnd_find C hmono hi hs xs hok hf
  obtain ⟨pre, x, suf, f1, f2, f3, f4, f5, f6⟩ := hfd hE
  obtain ⟨hx, hb, hml, hown, hts, hK, hF, hsz, hnb⟩ := C
  have hca : (Cond.castable E E).before args s = true := by
    obtain ⟨j, hj, rfl⟩ := hE
    have h1 := List.all_eq_true.mp ex_cast j (by simp; omega)
    exact va_Nw.use rfl (hF.2.2.2.2.2.1 _ (of_decide_eq_true h1) rfl)
  refine vx_catch hown pre x suf (by rw [htab, f1]) f2 f3 f4 f5 hca hce hcv hcl ?_
  rw [f6]
  obtain ⟨J, n, hd, hn, hj⟩ := hins
  rw [hl.2.1] at ha
  simp only [stJ] at hj
  have kk : ∀ ls' : Array Slot, lv_has ls' nL _ → _ := fun ls' h' => hk.at ho hn hI (hl.st0 (x := Value.ref q) h')
  rcases hj with ⟨rfl, rfl⟩ | ⟨z, rfl, hz, rfl⟩
  · exact lv_astore hx hb hd hl.has ha rfl kk
  · exact lv_astore_n hx hb hd hz hl.has ha rfl kk
end SCALL
end
section
/-! soundness: calls, throws, returns, whole bodies -/
section SINV
variable {π : aP} {p : Program} {l : Launch} {e : Env} {R : Room} {s : State} {m : MethodId} {args : Array Value} {below : List Frame} {meth : Method} {c : Code} {QQ : State → Prop}
variable {own : String} {cc : ByteArray} {nL nb : Nat} {pcs : Nat → Nat} {k : aK} {w : aW} {uc us i : Nat} {lo : List (Option Value)} {st : List Value} {H : Heap} {locs : List Loc} {ls : Array Slot} {J : Instr} {n : Nat} {I : aInfo}
theorem WS_good {w : Cond} (h : w ∈ WS) : goodWord w = true := (List.mem_filter.mp h).2
theorem ws_pay {y9 : Cond} (hts : ∀ w ∈ WS, w.before args s = true) (hy : y9 ∈ WS) : ∀ w ∈ y9 :: WS, ∀ (a' : Array Value) (U : State), s.WarmedH U.vm → w.before a' U = true := by
  intro w hw a' U hW
  have hw' : w ∈ WS := by
    rcases List.mem_cons.mp hw with rfl | h
    · exact hy
    · exact h
  exact word_at hW (good_of_word (WS_good hw')) (hts w hw')
/-- what the check of a callee says -/
theorem chY_ok {mid : Nat} (h : chZ mid = true) : Cond.initialized (yOf mid).cls ∈ WS ∧ codeW mid ∈ WS ∧ ((yOf mid).cls ≠ "java/lang/invoke/MethodHandle" ∧ (yOf mid).cls ≠ "java/lang/invoke/VarHandle") ∧ (plainFor (yOf mid) = true ∧ (exwOf mid = [] ∨ plainName (yOf mid).cls = true)) ∧ mlOf mid ≤ 40 ∧
    (kindOf mid = 0 → Cond.static (yOf mid) ∈ WS) ∧ (kindOf mid = 1 → exwOf mid = [] ∧ Cond.instanceMethod (yOf mid) ∈ WS ∧ Cond.selects (yOf mid).cls (yOf mid) (yOf mid) ∈ WS) ∧ (kindOf mid = 2 → exwOf mid = [] ∧ Cond.instanceMethod (yOf mid) ∈ WS ∧ (yOf mid).name = "<init>" ∧ retOf mid = none) := by
  unfold chZ at h
  simp only [Bool.and_eq_true] at h
  obtain ⟨⟨⟨⟨⟨⟨⟨h1, h2⟩, h3⟩, h4⟩, h5⟩, h5b⟩, h6⟩, h7⟩ := h
  have h5c : exwOf mid = [] ∨ plainName (yOf mid).cls = true := by
    rcases Bool.or_eq_true_iff.mp h5b with h | h
    · exact Or.inl (List.isEmpty_iff.mp h)
    · exact Or.inr h
  refine ⟨atT_ok h1, atT_ok h2, ⟨of_decide_eq_true h3, of_decide_eq_true h4⟩, ⟨h5, h5c⟩, of_decide_eq_true h7, fun hk => ?_, fun hk => ?_, fun hk => ?_⟩
  · rw [hk] at h6
    exact atT_ok h6
  · rw [hk] at h6
    simp only [Bool.and_eq_true, List.isEmpty_iff] at h6
    exact ⟨h6.1.1, atT_ok h6.1.2, atT_ok h6.2⟩
  · rw [hk] at h6
    simp only [Bool.and_eq_true, List.isEmpty_iff, decide_eq_true_eq] at h6
    exact ⟨h6.1.1.1, atT_ok h6.1.1.2, h6.1.2, h6.2⟩
theorem codeW_nil {mid : Nat} (h : exwOf mid = []) : codeW mid = .code (yOf mid) (bytOf mid) (mlOf mid) (retOf mid) := by
  unfold codeW
  rw [h]
  rfl
theorem codeW_cons {mid : Nat} (h : exwOf mid ≠ []) : codeW mid = .codeWith (yOf mid) (bytOf mid) (mlOf mid) (retOf mid) (exwOf mid) := by
  unfold codeW
  rw [if_neg]
  intro h2
  exact h (List.isEmpty_iff.mp h2)
theorem map_cat9 (ad : Nat → Nat) (l : List Value) : (l.map (tV ad)).map (fun v => v.category) = l.map (fun v => v.category) := by
  rw [List.map_map]
  apply List.map_congr_left
  intro v _
  exact tV_cat _ v
theorem nest_in : nestTab.all (fun q => decide (Cond.methodLinkNest q.1 q.2.1 q.2.2.1 q.2.2.2 ∈ lw_tbl)) = true := by decide +kernel
theorem nest_no9 : nestTab.all (fun q => (List.range 345).all (fun i => !(decide (yOf i = q.2.2.1)) || (exwOf i).isEmpty)) = true := by decide +kernel
theorem nest_no (own : String) (ix mid : Nat) (host : String) (h : (own, ix, yOf mid, host) ∈ nestTab) : exwOf mid = [] := by
  have h1 := List.all_eq_true.mp nest_no9 _ h
  by_cases hm : mid < 345
  · have h2 := List.all_eq_true.mp h1 mid (List.mem_range.mpr hm)
    simp only [Bool.or_eq_true, Bool.not_eq_true', decide_eq_false_iff_not, not_true_eq_false, false_or, List.isEmpty_iff] at h2
    exact h2
  · have h3 : exwL.length = 345 := by decide +kernel
    unfold exwOf
    rw [List.getD_eq_getElem?_getD, List.getElem?_eq_none (by omega)]
    rfl
/-- a call: the contract that its callee has is met by the machine -/
theorem so_callrun {d mid na : Nat} {l9 : List Nat} {Qr' : Option Value → aW → Prop} {Qx' : String → aW → Prop} (hR : 8 + (d + 1) ≤ R.frames ∧ 200 + 60 * (d + 1) ≤ R.locals ∧ R.cells = I.1 ∧ R.slots = I.2.1) (hY : chZ mid = true) (C : CTX π own cc nL nb p s m args c) (hd : decode cc (pcs i) = .ok (J, 3)) (hj : callJ own mid na l9 J)
    (hI : InvW π w s H locs) (hl : LH π ls nL lo) (h6 : H.size ≤ s.heap.size + uc) (hna : na ≤ st.length) (hst : stW (st.drop na) ≤ 8) (hw : w.1 = N0 ∨ w.1 = nb + uc) (hrc : rcvA π.2.2.2.2 l9 w (st.take na).reverse) (hc1 : uc + (mbOf mid).1 ≤ I.1) (hc2 : us + (mbOf mid).2 ≤ I.2.1) (hM : MA l π d mid (st.take na).reverse w Qr' Qx') :
    ∃ a9, vx_Run p l e R s m args below meth c H locs uc us (mbOf mid).1 (mbOf mid).2 (F0 m (pcs i) ls (st.map (tV (Pad π)))) ((st.drop na).map (tV (Pad π))) (QcA π Qr' a9) (XcA π Qx') (PA π) := by
  have hpre := PcA_pre C hI hw h6 (st.take na).reverse
  obtain ⟨hx, hb, hml, hown, hts, hK, hF, hsz, hnb⟩ := C
  obtain ⟨hP, hD, hS, hN⟩ := id hI
  obtain ⟨y1, y2, y3, y4, y5, y6, y7, y8⟩ := chY_ok hY
  have hpay := ws_pay hts y2
  have hcw : codeW mid ∈ codeW mid :: WS := List.mem_cons_self
  have hcat : 2 * (F0 m (pcs i) ls (st.map (tV (Pad π)))).monitorRoom + (((st.drop na).map (tV (Pad π))).map fun v => v.category).sum ≤ 8 := by
    rw [map_cat9]
    show 2 * 0 + _ ≤ 8
    have : ((st.drop na).map fun v => v.category).sum ≤ 8 := hst
    omega
  have hf : uc + (mbOf mid).1 ≤ R.cells ∧ us + (mbOf mid).2 ≤ R.slots := by rw [hR.2.2.1, hR.2.2.2]; exact ⟨hc1, hc2⟩
  have hfr : (rmD d (mbOf mid).1 (mbOf mid).2).frames + 1 ≤ R.frames := by have := hR.1; show 8 + d + 1 ≤ _; omega
  have hlo : 8 + (mlOf mid + 11) + (rmD d (mbOf mid).1 (mbOf mid).2).locals ≤ R.locals := by have := hR.2.1; show 8 + (mlOf mid + 11) + (200 + 60 * d) ≤ _; omega
  have hstk : st.map (tV (Pad π)) = ((st.take na).reverse.map (tV (Pad π))).reverse ++ (st.drop na).map (tV (Pad π)) := by
    rw [← List.map_reverse, List.reverse_reverse, ← List.map_append, List.take_append_drop]
  have hlen : ((st.take na).reverse).length = na := by rw [List.length_reverse, List.length_take]; omega
  have hnp : ∀ (f : Nat → Nat) (x : Nat), (parseMethodDescriptor (yOf mid).desc).map (fun d => f d.parameters.length) = some x → ∀ sig, parseMethodDescriptor (yOf mid).desc = some sig → x = f sig.parameters.length := by
    intro f x h sig hsig
    rw [hsig] at h
    exact (Option.some.inj h).symm
  have S9 : CallFix p m c cc nL s args WS own := ⟨hx, hb, hml, hown, hts⟩
  have hns : nestTab.all (fun q => decide (Cond.methodLinkNest q.1 q.2.1 q.2.2.1 q.2.2.2 ∈ lw_tbl)) = true → ∀ ix host, (own, ix, yOf mid, host) ∈ nestTab → (Cond.methodLinkNest own ix (yOf mid) host).before args s = true := by
    intro h ix host hm
    have h1 := List.all_eq_true.mp h _ hm
    exact va_Nw.use rfl (hF.2.2.2.2.2.1 _ (of_decide_eq_true h1) rfl)
  have hns' := hns nest_in
  obtain ⟨ix, hlk, hcase⟩ := hj
  rcases hcase with ⟨hk0, hl9, rfl, hn9⟩ | ⟨hk0, hlk1, rfl, hn9, hrv⟩ | ⟨hk0, hl9, rfl, hn9⟩
  · have hstat := hts _ (y6 hk0)
    have hn' := hnp (fun x => x) na hn9
    refine ⟨(((st.take na).reverse).map (tV (Pad π))).toArray, ?_⟩
    by_cases hex : exwOf mid = []
    · have hcode : Cond.code (yOf mid) (bytOf mid) (mlOf mid) (retOf mid) ∈ codeW mid :: WS := by rw [codeW_nil hex]; exact List.mem_cons_self
      have hcb : (Cond.code (yOf mid) (bytOf mid) (mlOf mid) (retOf mid)).before args s = true := by rw [← codeW_nil hex]; exact hts _ y2
      rcases hlk with hlk | ⟨host, hlk⟩
      · exact vx_runS (n := na) S9 hM ⟨⟨rfl, rfl, hfr, hlo, hpay, hcode, hcb, hts _ y1, y3, hn', hts _ hlk⟩, hstat⟩ ⟨PcA_blind, hpre⟩ rfl (by rw [List.length_map]; exact hlen) hl.1 hstk hcat hd hf
      · exact vx_runSN (n := na) S9 hM ⟨⟨⟨rfl, rfl, hfr, hlo, hpay, hcode⟩, hcb, hts _ y1, y3, hn', hns' ix host hlk⟩, hstat, trivial⟩ ⟨PcA_blind, hpre⟩ rfl (by rw [List.length_map]; exact hlen) hl.1 hstk hcat hd hf
    · have hcode : Cond.codeWith (yOf mid) (bytOf mid) (mlOf mid) (retOf mid) (exwOf mid) ∈ codeW mid :: WS := by rw [codeW_cons hex]; exact List.mem_cons_self
      have hcb : (Cond.codeWith (yOf mid) (bytOf mid) (mlOf mid) (retOf mid) (exwOf mid)).before args s = true := by rw [← codeW_cons hex]; exact hts _ y2
      rcases hlk with hlk | ⟨host, hlk⟩
      · exact vx_runSX (n := na) S9 hM ⟨⟨rfl, rfl, hfr, hlo, hpay, hcode⟩, hcb, hts _ y1, y3, hn', hts _ hlk, hstat⟩ ⟨PcA_blind, hpre⟩ rfl (by rw [List.length_map]; exact hlen) hl.1 hstk hcat hd hf
      · exact absurd (nest_no _ _ _ _ hlk) hex
  · obtain ⟨y71, y72, y73⟩ := y7 hk0
    have hcode : Cond.code (yOf mid) (bytOf mid) (mlOf mid) (retOf mid) ∈ codeW mid :: WS := by rw [codeW_nil y71]; exact List.mem_cons_self
    have hcb : (Cond.code (yOf mid) (bytOf mid) (mlOf mid) (retOf mid)).before args s = true := by rw [← codeW_nil y71]; exact hts _ y2
    have hn' := hnp (fun x => x + 1) na hn9
    cases has : (st.take na).reverse with
    | nil =>
      rw [has] at hrc
      rcases hrv with ⟨rfl, -⟩ | ⟨ci, rfl, -, -, -⟩ <;> exact hrc.elim
    | cons v as =>
      rw [has] at hrc hpre hM hstk hlen
      cases v with
      | ref q =>
        have hcell : ∃ cellB : Cell, H[Pad π q]? = some cellB ∧ cellB.vm.isStatics = false ∧ s.vm.findClass (yOf mid).cls = some cellB.cls := by
          rcases hrv with ⟨rfl, hC⟩ | ⟨ci, rfl, hne, hne2, hC⟩
          · obtain ⟨r1, r2, r3⟩ := hrc
            obtain ⟨a1, -, -⟩ := hF.2.2.1 _ (Nat.sub_lt_left_of_lt_add r1 r2) r3
            obtain ⟨cell, c1, c2, c3, -⟩ := a1.kept hS.2.1
            refine ⟨cell, ?_, c2, by rw [hC]; exact c3⟩
            rw [Pad_fx r1]
            exact c1
          · have hrc' : ∃ fs, aAt w q (.inr (ci, fs)) := by
              unfold rcvA at hrc
              dsimp only at hrc
              rw [if_neg hne, if_neg hne2] at hrc
              exact hrc
            obtain ⟨fs, hfs⟩ := hrc'
            cases hcl : vwCl[ci]? with
            | none => rw [hcl] at hC; cases hC
            | some r9 =>
              rw [hcl] at hC
              have h9 := va_recv hK hP hcl (wl_get hfs)
              rw [show r9.1 = (yOf mid).cls from Option.some.inj hC] at h9
              exact h9
        refine ⟨(Value.ref (Pad π q) :: as.map (tV (Pad π))).toArray, ?_⟩
        have hla : (as.map (tV (Pad π))).length + 1 = na := by rw [List.length_map]; simpa using hlen
        exact vx_runV (n := na - 1) (C := (yOf mid).cls) S9 hM ⟨⟨rfl, rfl, hfr, hlo, hpay, hcode, hcb, hts _ y1, y3, (fun sig hs => by have := hn' sig hs; omega), hts _ hlk1⟩, hts _ y72, hts _ y73⟩ ⟨PcA_blind, hcell, hpre⟩ rfl (by omega) hl.1 (by show st.map (tV (Pad π)) = _; rw [hstk]; simp [tV]) hcat hd hf
      | _ => rcases hrv with ⟨rfl, -⟩ | ⟨ci, rfl, -, -, -⟩ <;> exact hrc.elim
  · obtain ⟨y81, y82, y83, y84⟩ := y8 hk0
    have hcode : Cond.code (yOf mid) (bytOf mid) (mlOf mid) none ∈ codeW mid :: WS := by rw [← y84, codeW_nil y81]; exact List.mem_cons_self
    have hcb : (Cond.code (yOf mid) (bytOf mid) (mlOf mid) none).before args s = true := by rw [← y84, ← codeW_nil y81]; exact hts _ y2
    have hn' := hnp (fun x => x + 1) na hn9
    cases has : (st.take na).reverse with
    | nil =>
      rw [has] at hlen
      have := hn'
      cases hp9 : parseMethodDescriptor (yOf mid).desc with
      | none => rw [hp9] at hn9; cases hn9
      | some sig =>
        have := hn' sig hp9
        simp at hlen
        omega
    | cons v as =>
      rw [has] at hrc hpre hM hstk hlen
      subst hl9
      cases v with
      | ref q =>
        refine ⟨(Value.ref (Pad π q) :: as.map (tV (Pad π))).toArray, ?_⟩
        have hla : (as.map (tV (Pad π))).length + 1 = na := by rw [List.length_map]; simpa using hlen
        have hn2 : ∀ sig, parseMethodDescriptor (yOf mid).desc = some sig → na - 1 = sig.parameters.length := fun sig hs => by have := hn' sig hs; omega
        have hstk2 : st.map (tV (Pad π)) = (as.map (tV (Pad π))).reverse ++ Value.ref (Pad π q) :: (st.drop na).map (tV (Pad π)) := by rw [hstk]; simp [tV]
        rcases hlk with hlk | ⟨host, hlk⟩
        · exact vx_runI (n := na - 1) S9 hM ⟨⟨rfl, rfl, hfr, hlo, hpay, hcode, hcb, hts _ y1, y3, hn2, hts _ hlk⟩, y83, hts _ y82⟩ ⟨PcA_blind, hpre⟩ rfl (by omega) hl.1 hstk2 hcat hd hf
        · exact vx_runIN (n := na - 1) S9 hM ⟨⟨⟨rfl, rfl, hfr, hlo, hpay, hcode⟩, hcb, hts _ y1, y3, hn2, hns' ix host hlk⟩, y83, hts _ y82⟩ ⟨PcA_blind, hpre⟩ rfl (by omega) hl.1 hstk2 hcat hd hf
      | _ => exact hrc.elim
end SINV
end
section
/-! soundness: throws, returns, whole bodies, methods at any depth -/
section SMAIN
variable {π : aP} {p : Program} {l : Launch} {e : Env} {R : Room} {s : State} {m : MethodId} {args : Array Value} {below : List Frame} {meth : Method} {c : Code} {QQ : State → Prop}
variable {own : String} {cc : ByteArray} {nL nb : Nat} {pcs : Nat → Nat} {k : aK} {w : aW} {uc us i : Nat} {lo : List (Option Value)} {st : List Value} {H : Heap} {locs : List Loc} {ls : Array Slot} {J : Instr} {n : Nat} {I : aInfo}
variable {Qr : Option Value → aW → Prop} {Qx : String → aW → Prop}
/-- what a body owes at its ends -/
def EndR (π : aP) (p : Program) (l : Launch) (e : Env) (R : Room) (s : State) (m : MethodId) (args : Array Value) (below : List Frame) (meth : Method) (c : Code) (QQ : State → Prop) (cc : ByteArray) (I : aInfo) (Qr : Option Value → aW → Prop) : Prop :=
  ∀ (b : Nat) (w : aW) (uc us pc : Nat) (st : List Value) (H : Heap) (locs : List Loc) (ls : Array Slot), b < 4 → decode cc pc = .ok (retJ b, 1) → opRet I Qr b w uc us st → InvW π w s H locs → W p l e R s m args below meth c H locs uc us QQ (F0 m pc ls (st.map (tV (Pad π))))
def EndT (π : aP) (p : Program) (l : Launch) (e : Env) (R : Room) (s : State) (m : MethodId) (args : Array Value) (below : List Frame) (meth : Method) (c : Code) (QQ : State → Prop) (own : String) (cc : ByteArray) (nL : Nat) (I : aInfo) (Qx : String → aW → Prop) : Prop :=
  ∀ (a : Nat) (w : aW) (uc us pc : Nat) (st : List Value) (H : Heap) (locs : List Loc) (ls : Array Slot), thrJ own cc pc a → opThr I Qx a w uc us st → InvW π w s H locs → ls.size = nL → W p l e R s m args below meth c H locs uc us QQ (F0 m pc ls (st.map (tV (Pad π))))
def EndX (π : aP) (p : Program) (l : Launch) (e : Env) (R : Room) (s : State) (m : MethodId) (args : Array Value) (below : List Frame) (meth : Method) (c : Code) (QQ : State → Prop) (I : aInfo) (Qx : String → aW → Prop) : Prop :=
  ∀ (E : String) (w : aW) (uc us pc : Nat) (rest : List Value) (H : Heap) (locs : List Loc) (ls : Array Slot) (q : Nat) (ce : Cell), I.2.2.2 = [] → Qx E w → uc ≤ I.1 → us ≤ I.2.1 → InvW π w s H locs → H[q]? = some ce → ce.vm = .none → s.vm.findClass E = some ce.cls → vx_W p l e R s m args below meth c H locs uc us QQ (F0 m pc ls rest) q
set_option maxHeartbeats 4000000 in
/-- one step -/
theorem so_step {d : Nat} {cs : aS} {K : List aI} {xs : List (Nat × Nat × Nat × Nat)} {ini : Bool} {ins : aI} (hR : 8 + (d + 1) ≤ R.frames ∧ 200 + 60 * (d + 1) ≤ R.locals ∧ R.cells = I.1 ∧ R.slots = I.2.1)
    (hY : ∀ mid, kindOf mid = 0 ∨ kindOf mid = 1 ∨ kindOf mid = 2 → chZ mid = true) (hcs : ∀ mid av w Qr Qx, cs mid av w Qr Qx → MA l π d mid av w Qr Qx) (hini : ini = true → meth.name = "<init>")
    (hcode : ∀ i ins, K[i]? = some ins → OKI own cc ini pcs i ins) (hmono : ∀ x y, x < y → y ≤ K.length → pcs x < pcs y) (hok : HndOK own pcs K.length I.2.2.2 xs) (htab : c.exceptionTable.toList = tableOf xs)
    (ER : EndR π p l e R s m args below meth c QQ cc I Qr) (ET : EndT π p l e R s m args below meth c QQ own cc nL I Qx) (EX9 : EndX π p l e R s m args below meth c QQ I Qx)
    (C : CTX π own cc nL nb p s m args c) (hk : KS π p l e R s m args below meth c QQ nL pcs k) (hins : K[i]? = some ins) (ho : opS π.2.2.2.2 mbOf cs I K k Qr Qx nb ins w uc us i lo st) (hI : InvW π w s H locs) (hl : LH π ls nL lo) :
    W p l e R s m args below meth c H locs uc us QQ (F0 m (pcs i) ls (st.map (tV (Pad π)))) := by
  have hKi : i < K.length := (List.getElem?_eq_some_iff.mp hins).1
  obtain ⟨J, n, hd, hj⟩ := hcode i ins hins
  have hR1 : 1 ≤ R.frames ∧ 100 ≤ R.locals := by omega
  obtain ⟨op, a, b, v, tl⟩ := ins
  unfold opS at ho
  dsimp only at ho
  split at ho
  · exact so_ld C hk hd hj ho hI hl
  · exact so_st C hk hd hj ho hI hl
  · exact so_co C hk hd hj ho hI hl
  · exact so_inc C hk hd hj ho hI hl
  · exact so_bin C hk hd hj ho hI hl
  · exact so_dv C hk hd hj ho hI hl
  · exact so_un C hk hd hj ho hI hl
  · exact so_binL C hk hd hj ho hI hl
  · exact so_dvL C hk hd hj ho hI hl
  · exact so_cmL C hk hd hj ho hI hl
  · exact so_shL C hk hd hj ho hI hl
  · exact so_dup C hk hd hj ho hI hl
  · exact so_if C hk hd hj ho hI hl
  · exact so_cmp C hk hd hj ho hI hl
  · exact so_go C hk hd hj ho hI hl
  · exact so_sw C hk hd hj ho hI hl
  · exact so_get C hk hd hj ho hI hl
  · exact so_put C hk hd hj ho hI hl
  · obtain ⟨h1, ix, C9, T9, N9, h2, h3, h4, h5, h6, h7, h8⟩ := hj
    exact so_putF (hini h8) C hk hd ⟨h1, ix, C9, T9, N9, h2, h3, h4, h5, h6, h7, trivial⟩ ho hI hl
  · exact so_len C hk hd ⟨hj.1, hj.2.2.2⟩ ho hI hl
  · exact so_ild C hk hd ⟨hj.1, hj.2.2.2⟩ ho hI hl
  · exact so_ist C hk hd ⟨hj.1, hj.2.2.2⟩ ho hI hl
  · exact so_bld C hk hd ⟨hj.1, hj.2.2.2⟩ ho hI hl
  · exact so_bst C hk hd ⟨hj.1, hj.2.2.2⟩ ho hI hl
  · exact so_lld C hk hd ⟨hj.1, hj.2.2.2⟩ ho hI hl
  · exact so_lst C hk hd ⟨hj.1, hj.2.2.2⟩ ho hI hl
  · exact so_ald C hk hd ⟨hj.1, hj.2.2.2⟩ ho hI hl
  · exact so_ast C hk hd ⟨hj.1, hj.2.2.2⟩ ho hI hl
  · exact so_new ⟨hR.2.2.1, hR.2.2.2⟩ C hk hd hj ho hI hl
  · exact so_newa ⟨hR.2.2.1, hR.2.2.2⟩ C hk hd hj ho hI hl
  · obtain ⟨hn, rfl, hcj⟩ := hj
    obtain ⟨g1, g2, g3, g4, g5, g6, g7⟩ := ho
    have hkd : chZ a = true := by
      obtain ⟨ix, -, h | h | h⟩ := hcj
      · exact hY _ (Or.inl h.1)
      · exact hY _ (Or.inr (Or.inl h.1))
      · exact hY _ (Or.inr (Or.inr h.1))
    refine W.size9 fun h6 => ?_
    obtain ⟨a9, hrun⟩ := so_callrun hR hkd C hd hcj hI hl h6 g1 g2 g3 g4 g5 g6 (hcs _ _ _ _ _ g7)
    refine so_run C.2.2.2.2.2.2.2.1 hrun hI (fun v w' hq H1 locs1 hI1 => hk.at hq hn hI1 hl) (fun E w' hq H1 locs1 q ce hI1 hce hcv hcl => ?_)
    split at hq
    · rename_i h9 hf
      obtain ⟨a0, vv, ll, e1, e2, e3⟩ := hq
      exact so_catch C hk hmono hKi hok htab hf (hcode _ _ e1) e2 e3 hI1 hl hce hcv hcl
    · exact EX9 E w' _ _ _ _ H1 locs1 ls q ce hq.1 hq.2 g5 g6 hI1 hce hcv hcl
  · exact so_cpy hR1 C hk hd hj ho hI hl
  · exact so_obj hR1 C hk hd hj ho hI hl
  · exact ET a w uc us _ st H locs ls hj ho hI hl.1
  · obtain ⟨rfl, rfl, hb4⟩ := hj
    exact ER b w uc us _ st H locs ls hb4 hd ho hI
  · exact so_str C hk hd hj ho hI hl
  · exact so_gst C hk hd hj ho hI hl
  · exact so_getS C hk hd hj ho hI hl
  · exact ho.elim
/-- a body -/
theorem so_body {d : Nat} {cs : aS} {K : List aI} {xs : List (Nat × Nat × Nat × Nat)} {ini : Bool} (hR : 8 + (d + 1) ≤ R.frames ∧ 200 + 60 * (d + 1) ≤ R.locals ∧ R.cells = I.1 ∧ R.slots = I.2.1)
    (hY : ∀ mid, kindOf mid = 0 ∨ kindOf mid = 1 ∨ kindOf mid = 2 → chZ mid = true) (hcs : ∀ mid av w Qr Qx, cs mid av w Qr Qx → MA l π d mid av w Qr Qx) (hini : ini = true → meth.name = "<init>")
    (hcode : ∀ i ins, K[i]? = some ins → OKI own cc ini pcs i ins) (hmono : ∀ x y, x < y → y ≤ K.length → pcs x < pcs y) (hok : HndOK own pcs K.length I.2.2.2 xs) (htab : c.exceptionTable.toList = tableOf xs)
    (ER : EndR π p l e R s m args below meth c QQ cc I Qr) (ET : EndT π p l e R s m args below meth c QQ own cc nL I Qx) (EX9 : EndX π p l e R s m args below meth c QQ I Qx)
    (C : CTX π own cc nL nb p s m args c) (h : EX π.2.2.2.2 mbOf cs I K Qr Qx nb w uc us i lo st) (hI : InvW π w s H locs) (hl : LH π ls nL lo) :
    W p l e R s m args below meth c H locs uc us QQ (F0 m (pcs i) ls (st.map (tV (Pad π)))) := by
  refine h (fun w uc us i lo st => ∀ H locs ls, InvW π w s H locs → LH π ls nL lo → W p l e R s m args below meth c H locs uc us QQ (F0 m (pcs i) ls (st.map (tV (Pad π))))) (fun w uc us i lo st ins hins ho H locs ls hI hl => ?_) H locs ls hI hl
  exact so_step hR hY hcs hini hcode hmono hok htab ER ET EX9 C (fun _ _ _ _ _ _ h => h) hins ho hI hl
/-! the ends of a method's body -/
theorem endR_met {d : Nat} {mc ms : Nat} (hx : p.tables.exec = Jvm.exec) (hb : c.code = cc) (hlocks : meth.locks = false) (hr : meth.sig.returnType = I.2.2.1) (h1 : I.1 = mc) (h2 : I.2.1 = ms) : EndR π p l e R s m args below meth c (vx_MQ below (QcA π Qr) (XcA π Qx) args s mc ms (PA π)) cc I Qr := by
  intro b w uc us pc st H locs ls hb4 hd ho hI
  obtain ⟨g1, g2, g3⟩ := ho
  obtain ⟨hP, hD, hS, hN⟩ := hI
  subst h1; subst h2
  refine W.widen g1 g2 (vx_ret ?_)
  have hq : ∀ v : Option Value, Qr v w → ∀ t : State, t.heap = H → s.WarmedH t.vm → QcA π Qr args s (.returned (v.map (tV (Pad π)))) t := fun v hv t ht _ => ⟨⟨v, w, rfl, hv, by rw [ht]; exact hP, hD, hN⟩, hS.F ht⟩
  match b, st, g3 with
  | 0, [.int x], g3 =>
    obtain ⟨⟨ty, e1, e2, -, -⟩, e5⟩ := g3
    exact W.zret (ty := ty) hx hb (hr.trans e1) e2 (hq _ e5) hS.2.2 hd hlocks
  | 1, [.ref q], g3 =>
    obtain ⟨⟨CC, e1⟩, e5⟩ := g3
    exact W.aret (rt := .object CC) hx hb (hr.trans e1) (Or.inl ⟨_, rfl⟩) (Or.inr ⟨_, rfl⟩) (hq _ e5) hS.2.2 hd hlocks
  | 2, [.long x], g3 => exact W.lret hx hb (hr.trans g3.1) (hq _ g3.2) hS.2.2 hd hlocks
  | 3, [], g3 => exact W.vret hx hb (hr.trans g3.1) (hq _ g3.2) hS.2.2 hd hlocks
theorem endX_met {mc ms : Nat} (hlocks : meth.locks = false) (htab : I.2.2.2 = [] → c.exceptionTable.toList = []) (h1 : I.1 = mc) (h2 : I.2.1 = ms) : EndX π p l e R s m args below meth c (vx_MQ below (QcA π Qr) (XcA π Qx) args s mc ms (PA π)) I Qx := by
  intro E w uc us pc rest H locs ls q ce h0 hq g1 g2 hI hce hcv hcl
  obtain ⟨hP, hD, hS, hN⟩ := hI
  exact vx_out (fun x hx => by rw [htab h0] at hx; cases hx) hlocks hce hcv hcl (fun t ht hv => ⟨⟨w, hq, by rw [ht]; exact hP, hD, hN⟩, hS.F ht⟩) hS.2.2 (h1 ▸ g1) (h2 ▸ g2)
/-- the words of a throw -/
theorem thr_words {a : Nat} (ha : a < 3) : (∀ w ∈ vx_atS RX10 (icOf a).2 (exN a) exSup, w ∈ lw_tbl ∧ (goodWord w = true ∨ warmW w = true) ∧ vx_ot w = true) := by
  have key : ∀ b, (vx_atS RX10 (icOf b).2 (exN b) exSup).all (fun w => decide (w ∈ lw_tbl) && (goodWord w || warmW w) && vx_ot w) = true → ∀ w ∈ vx_atS RX10 (icOf b).2 (exN b) exSup, w ∈ lw_tbl ∧ (goodWord w = true ∨ warmW w = true) ∧ vx_ot w = true := by
    intro b h w hw
    have h1 := List.all_eq_true.mp h w hw
    simp only [Bool.and_eq_true, Bool.or_eq_true, decide_eq_true_eq] at h1
    exact ⟨h1.1.1, h1.1.2, h1.2⟩
  rcases (show a = 0 ∨ a = 1 ∨ a = 2 by omega) with rfl | rfl | rfl
  · exact key 0 cx_0
  · exact key 1 cx_1
  · exact key 2 cx_2
theorem thr_link {a : Nat} (ha : a < 4) : Cond.classLink RX10 (icOf a).1 (exN a) ∈ WS ∧ Cond.initialized (exN a) ∈ WS := by
  have h1 := List.all_eq_true.mp cx_l a (by simp; omega)
  simp only [Bool.and_eq_true, decide_eq_true_eq] at h1
  exact ⟨List.mem_filter.mpr ⟨h1.1.1, rfl⟩, List.mem_filter.mpr ⟨h1.1.2, rfl⟩⟩
theorem exN_fit {a : Nat} (ha : a < 4) : Bundle.fit (exN a) = true := by
  rcases (show a = 0 ∨ a = 1 ∨ a = 2 ∨ a = 3 by omega) with rfl | rfl | rfl | rfl <;> decide +kernel
theorem exSup_fit : ∀ n ∈ exSup, Bundle.fit n = true := by decide +kernel
theorem endT_met {d : Nat} {mc ms : Nat} (hst : l.stackTraces = false) (hR : 8 + (d + 1) ≤ R.frames ∧ 200 + 60 * (d + 1) ≤ R.locals ∧ R.cells = I.1 ∧ R.slots = I.2.1) (hlocks : meth.locks = false) (htab : I.2.2.2 = [] → c.exceptionTable.toList = []) (h1 : I.1 = mc) (h2 : I.2.1 = ms) (C : CTX π own cc nL nb p s m args c)
    (h3 : ∀ (w : aW) (uc us pc : Nat) (st : List Value) (H : Heap) (locs : List Loc) (ls : Array Slot), thrJ own cc pc 3 → opThr I Qx 3 w uc us st → InvW π w s H locs → ls.size = nL → W p l e R s m args below meth c H locs uc us (vx_MQ below (QcA π Qr) (XcA π Qx) args s mc ms (PA π)) (F0 m pc ls (st.map (tV (Pad π))))) :
    EndT π p l e R s m args below meth c (vx_MQ below (QcA π Qr) (XcA π Qx) args s mc ms (PA π)) own cc nL I Qx := by
  intro a w uc us pc st H locs ls hj ho hI hls
  by_cases ha3 : a = 3
  · subst ha3
    exact h3 w uc us pc st H locs ls hj ho hI hls
  obtain ⟨hx, hb, hml, hown, hts, hK, hF, hsz, hnb⟩ := C
  obtain ⟨hP, hD, hS, hN⟩ := hI
  obtain ⟨is, text, sd, rfl, ha, d0, d3, hstr, hd⟩ := hj
  obtain ⟨g1, g2, g3, g4, g5, g6⟩ := ho
  obtain ⟨sa, hsa, -⟩ := hF.2.2.2.2.1 _ hstr
  have hw := thr_words (show a < 3 by omega)
  obtain ⟨hl1, hl2⟩ := thr_link ha
  have hat : ∀ w ∈ vx_atS RX10 (icOf a).2 (exN a) exSup, w.before args s = true := fun w9 h9 => by
    obtain ⟨e1, e2, e3⟩ := hw w9 h9
    rcases e2 with e2 | e2
    · exact hts _ (List.mem_filter.mpr ⟨e1, e2⟩)
    · refine va_Nw.use ?_ (hF.2.2.2.2.2.1 _ e1 e2)
      cases w9 <;> first | rfl | exact absurd e2 (by simp [warmW])
  have hgood : ∀ w ∈ Cond.classLink RX10 (icOf a).1 (exN a) :: Cond.initialized (exN a) :: vx_atS RX10 (icOf a).2 (exN a) exSup, vx_ot w = true := by
    intro w9 h9
    rcases List.mem_cons.mp h9 with rfl | h9
    · rfl
    · rcases List.mem_cons.mp h9 with rfl | h9
      · rfl
      · exact (hw w9 h9).2.2
  have hcat : ((st.map (tV (Pad π))).map fun v => v.category).sum ≤ 8 := by rw [map_cat9]; exact g3
  have hx9 : ∀ t : State, s.vm.Alike t.vm → H.size ≤ t.heap.size → (∀ q : Nat, q < H.size → t.heap[q]? = H[q]?) → XcA π Qx (exN a) s t := fun t hv hs hq =>
    ⟨⟨w, g6, hP.kept (fun k q hk => hq _ ((hP k q hk).lt)), hD, hN⟩, Nat.le_trans hS.1 hs, fun q h1 h2 => (hq q (Nat.lt_of_lt_of_le h1 hS.1)).trans (hS.2.1 q h1 h2)⟩
  rcases hd with ⟨e4, e6, e9⟩ | ⟨e4, e7, e10⟩
  · exact vx_throwS (names := exSup) (sa := sa) (A := PA π) hx hb hst hown (exN_fit ha) exSup_fit (hts _ hl1) (hts _ hl2) hsa hat hgood hF.1.1 hF.1.2 hS (by rw [hml]; exact hls) d0 d3 e4 e6 e9 (fun x hx => by rw [htab g2] at hx; cases hx)
      (by have := hR.1; show 2 + 3 < _; omega) (by have := hR.2.1; show _ + (13 * (2 + 1) + 43) ≤ _; omega) (by rw [hR.2.2.1]; exact g4) (by rw [hR.2.2.2]; exact g5) hlocks hx9 hS.2.2 (h1 ▸ g4) (h2 ▸ g5)
  · exact vx_throwSW (names := exSup) (sa := sa) (A := PA π) hx hb hst hown (exN_fit ha) exSup_fit (hts _ hl1) (hts _ hl2) hsa hat hgood hF.1.1 hF.1.2 hS (by rw [hml]; exact hls) d0 d3 e4 e7 e10 (fun x hx => by rw [htab g2] at hx; cases hx)
      (by have := hR.1; show 2 + 3 < _; omega) (by have := hR.2.1; show _ + (13 * (2 + 1) + 43) ≤ _; omega) (by rw [hR.2.2.1]; exact g4) (by rw [hR.2.2.2]; exact g5) hlocks hx9 hS.2.2 (h1 ▸ g4) (h2 ▸ g5)
end SMAIN
end
section
/-! a throw of java.util.NoSuchElementException: her constructor calls her super's by place 13 of her pool, where the row for throws asks for place 7; the same gluing (Stand.ctorThrowS, JvmDerived/BundleOwnThrow.lean; vx_throwS) with a first link of her own -/
def nsX : String := "java/util/NoSuchElementException"
def nsR : String := "java/lang/RuntimeException"
def nsNo (w : Cond) : Bool := decide (w ≠ .code (Bundle.initS nsX) Bundle.six 2 none) && decide (w ≠ .methodLink nsX 7 (Bundle.initS Bundle.tN))
def nsAtoms (own : String) (ic : Nat) : List Cond := Bundle.passSAtoms nsX nsR 13 prog_30_method_4_code ++ Bundle.chainSAtoms nsR ["java/lang/Exception"] ++ (Bundle.ownAtoms own ic nsX []).filter nsNo
theorem ns_d0 : decode prog_30_method_4_code 0 = .ok (.aload_n 0, 1) := by decide +kernel
theorem ns_d1 : decode prog_30_method_4_code 1 = .ok (.aload_n 1, 1) := by decide +kernel
theorem ns_d2 : decode prog_30_method_4_code 2 = .ok (.invokespecial 13, 3) := by decide +kernel
theorem ns_d5 : decode prog_30_method_4_code 5 = .ok (.return_, 1) := by decide +kernel
theorem ns_fit : Bundle.fit nsX = true := by decide +kernel
theorem ns_fitR : Bundle.fit nsR = true := by decide +kernel
theorem ns_fitE : ∀ n ∈ ["java/lang/Exception"], Bundle.fit n = true := by decide +kernel
theorem ns_thr : (Bundle.throwableAtoms ++ Bundle.throwableSAtoms).all nsNo = true := by decide +kernel
theorem ns_in {own : String} {ic : Nat} {w : Cond} (h : w ∈ Bundle.ownAtoms own ic nsX []) (h1 : nsNo w = true) : w ∈ nsAtoms own ic := List.mem_append.mpr (Or.inr (List.mem_filter.mpr ⟨h, h1⟩))
section NSE
variable {p : Program} {l : Launch} {e : Env} {R : Room} {s : State} {m : MethodId} {args : Array Value} {below : List Frame} {meth : Method} {c : Code} {S0 : State} {locs : List Loc} {cells slots : Nat}
set_option maxHeartbeats 1000000 in
theorem ns_ctor (X : Stand p l e R s m args below meth c S0 locs cells slots) (hexec : p.tables.exec = Jvm.exec) (htr : e.platform.stackTraces = false) {own : String} {ic : Nat}
    (hown : s.vm.findClass own = some m.cls) (h : ∀ w ∈ nsAtoms own ic, w.before args s = true)
    (hlocs : ∀ x ∈ locs, ∀ cell, s.heap[x.base]? = some cell → cell.vm.isStatics = false)
    {a : Addr} {cX : ClassId} {kX : Class} (hfoundX : s.vm.findClass nsX = some cX) (hkX : s.vm.classes[cX]? = some kX) (hcell : S0.heap[a]? = some (freshCell cX kX)) (hnew : s.heap.size ≤ a)
    {msg : Value} (hmsg : msg.isRef = true)
    {g : JFrame} (hg : g.method = m) (hsize : g.locals.size = c.maxLocals) (hlocked : g.locked = none) (hentered : g.entered = []) {rest : List Value} (hstack : g.stack = msg :: .ref a :: .ref a :: rest)
    (hd6 : decode c.code g.pc = .ok (.invokespecial ic, 3)) (hd9 : decode c.code (g.pc + 3) = .ok (.athrow, 1)) (hout : ∀ x ∈ c.exceptionTable.toList, covers x (g.pc + 3) = false)
    (hRframes : 5 < R.frames) (hRlocals : 2 * g.monitorRoom + ((Value.ref a :: rest).map fun v => v.category).sum + 81 ≤ R.locals) (hlocks : meth.locks = false) :
    ∃ U : State, Steps p.tables e below (S0.setTop g) U ∧ U.status = .running ∧ Ended U below (.threw a) ∧ s.WarmedH U.vm ∧ s.sameButNew ({ U with vm := s.vm } : State) locs cells slots ∧
      ∃ ce, U.heap[a]? = some ce ∧ ce.vm = .none ∧ s.vm.findClass nsX = some ce.cls := by
  have howns : e.platform.frameOwnsMonitors = true := by rw [X.admits.platform]
  have hfin : e.platform.finalization = false := by rw [X.admits.platform]
  have hpl : e.platform.magicAccessors = ({} : Platform).magicAccessors := by rw [X.admits.platform]
  have hA : ∀ {x : Cond}, x ∈ Bundle.ownAtoms own ic nsX [] → nsNo x = true → x.holds args s none s [] = true := fun h1 h2 => h _ (ns_in h1 h2)
  have hT : ∀ x ∈ Bundle.throwableAtoms ++ Bundle.throwableSAtoms, x.before args s = true := fun x hx => h x (ns_in (by simp only [Bundle.ownAtoms, List.mem_append] at hx ⊢; rcases hx with hx | hx <;> simp [hx]) (List.all_eq_true.mp ns_thr x hx))
  obtain ⟨T, Z0, L, -, Y⟩ := ThrowableC.of_atoms (args := args) howns hfin hpl (fun x hx => hT x (List.mem_append.mpr (Or.inl hx)))
  obtain ⟨Z, M, LZ, LM, hnZ⟩ := Init0T.ofS_atoms (args := args) hpl L Y (fun x hx => hT x (List.mem_append.mpr (Or.inr hx)))
  obtain ⟨P1, L1, hP1m, hs1⟩ := PassC.ofS_atoms (args := args) (s := s) hpl (X := nsX) (Y := nsR) (index := 13) (bytes := prog_30_method_4_code) (Bundle.fit_spec ns_fit).1 (Bundle.fit_spec ns_fitR).2 ns_d0 ns_d1 ns_d2 ns_d5 (fun x hx => h x (by simp only [nsAtoms, List.mem_append]; exact Or.inl (Or.inl hx)))
  obtain ⟨P2, Ps, hlen, L2, hL, hP2m, hsup, hpass⟩ := Bundle.chainS (args := args) hpl hnZ ["java/lang/Exception"] nsR ns_fitR ns_fitE (fun x hx => h x (by simp only [nsAtoms, List.mem_append]; exact Or.inl (Or.inr hx)))
  have hfound : s.vm.findClass nsX = some P1.m.cls := findClass_of_methodNamed hP1m
  cases Option.some.inj (hfoundX.symm.trans hfound)
  obtain ⟨c1, kX', hc1, hk, hord, -, -, hn6⟩ := Cond.instantiable_spec (hA (x := .instantiable nsX 6) (by simp [Bundle.ownAtoms]) rfl)
  cases Option.some.inj (hc1.symm.trans hfound)
  cases Option.some.inj (hkX.symm.trans hk)
  have hsel0 : selectMethod e.platform s.vm P1.m.cls T.fill0 = .method T.fill0 := by
    obtain ⟨c2, r2, m2, q1, q2, q3, q4, -⟩ := Cond.selects_spec (hA (x := .selects nsX Bundle.tFill0 Bundle.tFill0) (by simp [Bundle.ownAtoms]) rfl)
    cases Option.some.inj (q1.symm.trans hfound)
    cases Option.some.inj (q2.symm.trans (State.methodFound?_of_named Y.fill0 (by decide)))
    cases Option.some.inj (q3.symm.trans Y.fill0)
    rw [Launch.admits_selectMethod X.admits]; exact q4
  have hselF : selectMethod e.platform s.vm P1.m.cls T.fill = .method T.fill := by
    obtain ⟨c2, r2, m2, q1, q2, q3, q4, -⟩ := Cond.selects_spec (hA (x := .selects nsX Bundle.tFill Bundle.tFill) (by simp [Bundle.ownAtoms]) rfl)
    cases Option.some.inj (q1.symm.trans hfound)
    cases Option.some.inj (q2.symm.trans (State.methodFound?_of_named Y.fill (by decide)))
    cases Option.some.inj (q3.symm.trans Y.fill)
    rw [Launch.admits_selectMethod X.admits]; exact q4
  obtain ⟨cellS0, hcS0, hiss⟩ := Y.statics
  obtain ⟨u0, hu0⟩ := Cond.staticRefV Y.unassigned L.unassignedStatic L.statics hcS0 hiss (hA (x := .isRef (.static Bundle.tN "UNASSIGNED_STACK" Bundle.steD)) (by simp [Bundle.ownAtoms]) rfl)
  obtain ⟨sen, hsen⟩ := Cond.staticRefV Y.sentinel L.sentinelStatic L.statics hcS0 hiss (hA (x := .isRef (.static Bundle.tN "SUPPRESSED_SENTINEL" Bundle.listD)) (by simp [Bundle.ownAtoms]) rfl)
  obtain ⟨ci198, i198, fB, hk198, hg198, ha198, hsB, -, hnB, htB, hffB⟩ := Cond.ownField (t := .object "java/lang/Object") Y.found L.cls (by decide +kernel) (hA (x := .fieldLink Bundle.tN 198 Bundle.tN "backtrace" "Ljava/lang/Object;") (by simp [Bundle.ownAtoms]) rfl) (hA (x := .lays Bundle.tN Bundle.tN "backtrace" "Ljava/lang/Object;") (by simp [Bundle.ownAtoms]) rfl) e.platform hpl
  obtain ⟨cellS, hcS', heS, -, hkeep⟩ := X.same.2.2.2.2.2 T.aS cellS0 hcS0
  have hcellS : S0.heap[T.aS]? = some cellS := hcS'
  have hout' : ∀ i, (⟨T.aS, i⟩ : Loc) ∉ locs := fun i hmem => by
    have := hlocs _ hmem cellS0 hcS0
    rw [hiss] at this; cases this
  have hknownS : cellS.vm ≠ .unknown := by
    rw [heS]; intro hu
    rw [show cellS0.vm = .unknown from hu] at hiss
    cases hiss
  have hneS : T.aS ≠ a := Nat.ne_of_lt (Nat.lt_of_lt_of_le (Array.getElem?_eq_some_iff.mp hcS0).1 hnew)
  obtain ⟨iM, hffM⟩ := Y.msg
  obtain ⟨tyC, dC, hdC, hdnC⟩ := Cond.laysAt hfound hk Y.cause (hA (x := .lays nsX Bundle.tN "cause" "Ljava/lang/Throwable;") (by simp [Bundle.ownAtoms]) rfl)
  obtain ⟨tyS, dS, hdS, hdnS⟩ := Cond.laysAt hfound hk Y.stack (hA (x := .lays nsX Bundle.tN "stackTrace" Bundle.steD) (by simp [Bundle.ownAtoms]) rfl)
  obtain ⟨tyP, dP, hdP, hdnP⟩ := Cond.laysAt hfound hk Y.supp (hA (x := .lays nsX Bundle.tN "suppressedExceptions" Bundle.listD) (by simp [Bundle.ownAtoms]) rfl)
  obtain ⟨tyM, dM, hdM, hdnM⟩ := Cond.laysAt hfound hk hffM (hA (x := .lays nsX Bundle.tN "detailMessage" "Ljava/lang/String;") (by simp [Bundle.ownAtoms]) rfl)
  obtain ⟨tyB, dB, hdB, hdnB⟩ := Cond.laysAt hfound hk hffB (hA (x := .lays nsX Bundle.tN "backtrace" "Ljava/lang/Object;") (by simp [Bundle.ownAtoms]) rfl)
  have bC := Cond.laysApart hdB hdC hdnB hdnC (by rw [hnB, Y.causeName]; decide)
  have bS := Cond.laysApart hdB hdS hdnB hdnS (by rw [hnB, Y.stackName]; decide)
  have bP := Cond.laysApart hdB hdP hdnB hdnP (by rw [hnB, Y.suppName]; decide)
  have hskip : SkipFacts T e.platform s (fun u => u) u0 ((preparedCellV T.toThrowableT (freshCell P1.m.cls kX) a u0 sen).withEntry S0.cur) :=
    ⟨{ ci198 := ci198, i198 := i198, fBack := fB }, ⟨hk198, hg198, ha198, hsB⟩, by
      have := fresh_default (c := P1.m.cls) tyB
      rw [htB] at this
      simpa [preparedCellV, Cell.setSlot, Cell.withEntry, Array.getElem?_setIfInBounds, bC, bS, bP, bC.symm, bS.symm, bP.symm, defaultValue] using this, fun _ _ => rfl⟩
  obtain ⟨tm, methC, cdC, kC, vm₁, hnC, -, -, -, -, -, -, -, hW₁, st1⟩ := Steps.initColdS (tb := p.tables) (e := e) (below := below) (s := s) (U := S0) X.here hexec X.warmed hpl hown (t := Bundle.initS nsX) rfl rfl (Bundle.fit_spec ns_fit).2
    (hA (x := .methodLink own ic (Bundle.initS nsX)) (by simp [Bundle.ownAtoms]) (by simp [nsNo, nsX, Bundle.initS, Bundle.tN])) (h (.instanceMethod (Bundle.initS nsX)) (by simp [nsAtoms, Bundle.passSAtoms])) (bytes := prog_30_method_4_code) (maxL := 2) (h (.code (Bundle.initS nsX) prog_30_method_4_code 2 none) (by simp [nsAtoms, Bundle.passSAtoms]))
    (f := g) hg (a := a) (msg := msg) (rest := .ref a :: rest) hstack hd6
  cases Option.some.inj (hnC.symm.trans hP1m)
  have X₁ := X.noted hW₁
  obtain ⟨vm₂, X₂, st2⟩ := X₁.ctorMessageOffV hexec (g := { g with stack := .ref a :: rest }) hg hsize T L Z LZ M LM (P1 :: P2 :: Ps)
    (fun P hP => by
      rcases List.mem_cons.mp hP with rfl | hP
      · exact L1
      · rcases List.mem_cons.mp hP with rfl | hP
        · exact L2
        · exact hL P hP) ⟨Option.some.inj (hs1.symm.trans hP2m), hsup, hpass⟩ (u0 := u0) (sen := sen) (self := a) hmsg (cell := freshCell P1.m.cls kX) (cellS := cellS)
    hcell (fun _ => by simp) (by simp) rfl rfl hsel0 hselF hcellS hneS hknownS (by rw [hkeep _ (hout' _)]; exact hu0) (by rw [hkeep _ (hout' _)]; exact hsen)
    (Takes.of_laid hk hord tyC (by rw [Y.causeType]; rfl)) (Takes.of_laid hk hord tyS (by rw [Y.stackType]; exact fits_refV_array _ u0)) (Takes.of_laid hk hord tyP (by rw [Y.suppType]; exact fits_refV_object _ sen))
    (Takes.of_laid hk hord tyM (by rw [Y.msgType]; exact fits_refV_object _ ⟨msg, hmsg⟩)) Y.objLocals hskip htr [] hd6
    (by simp only [List.length_cons, hlen, List.length_nil]; omega) (by simp only [List.length_cons, hlen, List.length_nil]; exact hRlocals)
  obtain ⟨hwalk, hrun, hended, hWU, hsame⟩ := X₂.athrowLeaves hexec (g := { g with stack := .ref a :: rest, pc := g.pc + 3 }) hg hlocked hentered hout (a := a) (rest := rest) rfl hd9
  have hlt : a < ((S0.setVm vm₁).setVm vm₂).heap.size := (Array.getElem?_eq_some_iff.mp hcell).1
  have hU := heapAt_setCell_self (s := (S0.setVm vm₁).setVm vm₂) (plainBareV T.toThrowableT (freshCell P1.m.cls kX) a u0 sen msg) hlt
  refine ⟨_, st1 _ (fun acts => ?_), hrun, hended, hWU, hsame.weaken (fun y hy hlt' => ?_) (Nat.le_refl _) (Nat.le_refl _), _, hU, rfl, hfound⟩
  · rw [doInvoke_state]
    exact st2 _ hwalk
  · rcases List.mem_append.mp hy with h1 | h1
    · exact h1
    · exfalso
      have hb : y.base = a := by
        simp only [List.mem_cons, List.not_mem_nil, or_false] at h1
        rcases h1 with rfl | rfl | rfl | rfl | rfl <;> rfl
      rw [hb] at hlt'
      exact Nat.not_lt.mpr hnew hlt'
end NSE
section NSW
variable {p : Program} {l : Launch} {e : Env} {R : Room} {s : State} {m : MethodId} {args : Array Value} {below : List Frame} {meth : Method} {c : Code} {H : Heap} {locs : List Loc} {cells slots : Nat} {ls : Array Slot} {rest : List Value}
variable {Qc : Array Value → State → Outcome → State → Prop} {XC : String → State → State → Prop} {free : Addr → Prop}
/-- 'throw new NoSuchElementException("text")', the text by either load -/
theorem ns_throw {cc : ByteArray} {pc k : Nat} (hexec : p.tables.exec = Jvm.exec) (hb : c.code = cc) (hl : l.stackTraces = false) {own text : String} {ik is ic mc ms sa : Nat} {A : Nat → Prop}
    (hown : s.vm.findClass own = some m.cls)
    (hk : (Cond.classLink own ik nsX).before args s = true) (hini : (Cond.initialized nsX).before args s = true) (hstr : vk_R own is text sa s) (hat : ∀ w ∈ (nsAtoms own ic).filter vx_no, w.before args s = true)
    (hgood : ∀ w ∈ Cond.classLink own ik nsX :: Cond.initialized nsX :: (nsAtoms own ic).filter vx_no, vx_ot w = true)
    (hU : vx_Zq Bundle.tN "UNASSIGNED_STACK" Bundle.steD A s s.heap) (hN : vx_Zq Bundle.tN "SUPPRESSED_SENTINEL" Bundle.listD A s s.heap) (hS : va_S A s.heap H locs) (hsize : ls.size = c.maxLocals)
    (d0 : decode cc pc = .ok (.new ik, 3)) (d3 : decode cc (pc + 3) = .ok (.dup, 1)) (d4 : (k = 2 ∧ decode cc (pc + 4) = .ok (.ldc is, 2)) ∨ (k = 3 ∧ decode cc (pc + 4) = .ok (.ldc_w is, 3))) (d6 : decode cc (pc + 4 + k) = .ok (.invokespecial ic, 3)) (d9 : decode cc (pc + 4 + k + 3) = .ok (.athrow, 1))
    (hout : ∀ x ∈ c.exceptionTable.toList, covers x (pc + 4 + k + 3) = false)
    (hRframes : 5 < R.frames) (hRlocals : (rest.map fun v => v.category).sum + 82 ≤ R.locals) (hRcells : cells + 1 ≤ R.cells) (hRslots : slots + 6 ≤ R.slots) (hlocks : meth.locks = false)
    (hx : ∀ t : State, s.vm.Alike t.vm → H.size ≤ t.heap.size → (∀ q : Nat, q < H.size → t.heap[q]? = H[q]?) → XC nsX s t)
    (hf : ∀ z ∈ locs, free z.base) (hc : cells + 1 ≤ mc) (hs : slots + 6 ≤ ms) :
    W p l e R s m args below meth c H locs cells slots (vx_MQ below Qc XC args s mc ms free) (F0 m pc ls rest) := by
  intro T hT X
  have htr : e.platform.stackTraces = false := (show e.platform.stackTraces = l.stackTraces by rw [X.admits.platform]).trans hl
  have Y := vx_rebase X (R' := { frames := R.frames, locals := R.locals, cells := 1, slots := 6 }) (Nat.le_refl _) (Nat.le_refl _) hRcells hRslots
  obtain ⟨s', hA⟩ : ∃ z, z = (T.setVm s.vm).setFrames (.invoking m args :: below) := ⟨_, rfl⟩
  rw [← hA] at Y
  have hvm : s'.vm = s.vm := by rw [hA]; rfl
  have hhp : s'.heap = H := by rw [hA]; exact hT
  have hW0 : s.WarmedH s'.vm := by rw [hvm]; exact State.WarmedH.refl s
  have hat' : ∀ w ∈ (nsAtoms own ic).filter vx_no, w.before args s' = true := fun w hw => vx_ot_at hW0 hvm.symm (hgood w (List.mem_cons_of_mem _ (List.mem_cons_of_mem _ hw))) (hat w hw)
  have hk' : (Cond.classLink own ik nsX).before args s' = true := vx_ot_at hW0 hvm.symm (hgood _ List.mem_cons_self) hk
  have hini' : (Cond.initialized nsX).before args s' = true := vx_ot_at hW0 hvm.symm (hgood _ (List.mem_cons_of_mem _ List.mem_cons_self)) hini
  have hU' : vx_Zq Bundle.tN "UNASSIGNED_STACK" Bundle.steD A s' s'.heap := by rw [hhp]; exact vx_Zq.moved hW0.alike (hU.kept hS.2.1)
  have hN' : vx_Zq Bundle.tN "SUPPRESSED_SENTINEL" Bundle.listD A s' s'.heap := by rw [hhp]; exact vx_Zq.moved hW0.alike (hN.kept hS.2.1)
  have h : ∀ w ∈ nsAtoms own ic, w.before args s' = true := vx_own hat' (vx_isRefq hU'.1) (vx_isRefq hN'.1) hU'.2.word hN'.2.word
  have hown' : s'.vm.findClass own = some m.cls := by rw [hvm]; exact hown
  have hins : (Cond.instantiable nsX 6).before args s' = true := h _ (ns_in (by simp [Bundle.ownAtoms]) rfl)
  obtain ⟨vm₁, cX, kX, hfX, hkX, -, -, X₁, st1⟩ := Y.newCold hexec (own := own) (C := nsX) (index := ik) (n := 6) hown' hk' hins hini'
    (g := F0 m pc ls rest) rfl (by rw [hb]; exact d0) (Nat.le_refl _) (Nat.le_refl _)
  generalize hT1 : (T.setVm vm₁).pushCell { cls := cX, slots := kX.instanceTypes.map defaultValue, vm := .none } = T1 at X₁ st1
  have hcat : (Value.ref T.heap.size).category = 1 := rfl
  have hcellA : T1.heap[T.heap.size]? = some (freshCell cX kX) := by rw [← hT1]; exact State.heap_pushCell_size _ _
  have d3' : decode c.code (pc + 3) = .ok (.dup, 1) := by rw [hb]; exact d3
  have hstr' : vk_R own is text sa s' := vk_R.warm hW0 hstr
  obtain ⟨U, hsteps, hrun, hend, hW, hsame, ce, hce, hcv, hO⟩ := ns_ctor X₁ hexec htr (own := own) (ic := ic) hown' h (fun x hx => nomatch hx) hfX hkX hcellA (by rw [hhp, hT]; exact Nat.le_refl _) (msg := .ref sa) rfl
    (g := { method := m, pc := pc + 4 + k, locals := ls, stack := .ref sa :: .ref T.heap.size :: .ref T.heap.size :: rest, locked := none }) rfl hsize rfl rfl (rest := rest) rfl
    (by rw [hb]; exact d6) (by rw [hb]; exact d9) hout hRframes (by simp only [List.map_cons, List.sum_cons, hcat]; show 2 * 0 + _ + 81 ≤ _; omega) hlocks
  obtain ⟨f1, f2⟩ := vx_frame hsame
  rw [hhp] at f1 f2
  have hWs : s.WarmedH U.vm := State.WarmedH.trans hW0 hW
  have hcl : s.vm.findClass nsX = some ce.cls := by
    rw [hvm] at hO
    exact hO
  have hall : s.sameButNew ({ U with vm := s.vm } : State) locs mc ms := by
    subst hA
    obtain ⟨e1, e2⟩ := hsame
    rw [State.setFrames_setFrames] at e1
    have h2 : (T.setVm s.vm).sameButNew ({ U with vm := s.vm } : State) [] (0 + 1) (0 + 6) := ⟨e1, e2⟩
    have h3 := X.same.trans h2
    rw [List.append_nil] at h3
    exact h3.mono hc hs
  refine ⟨U, ?_, .threw T.heap.size, hrun, hend, Or.inr ⟨T.heap.size, rfl, nsX, ce, locs, hx U hWs.alike f1 (fun q hq => f2 q hq (fun z hz => nomatch hz)), hce, hcv, hcl, hWs, hall, hf⟩⟩
  refine st1 _ ?_
  show Steps p.tables e below (T1.setTop { method := m, pc := pc + 3, locals := ls, stack := .ref T.heap.size :: rest, locked := none }) _
  jvm_step X₁.here [X₁.here.top, hexec, d3', Value.category]
  rcases d4 with ⟨rfl, d4⟩ | ⟨rfl, d4⟩
  · exact X₁.ldcString hexec (own := own) (text := text) (index := is) (a := sa) hown' hstr'.1 hstr'.2
      (g := { method := m, pc := pc + 4, locals := ls, stack := .ref T.heap.size :: .ref T.heap.size :: rest, locked := none }) rfl (by rw [hb]; exact d4) _ hsteps
  · exact X₁.ldcStringW hexec (own := own) (text := text) (index := is) (a := sa) hown' hstr'.1 hstr'.2
      (g := { method := m, pc := pc + 4, locals := ls, stack := .ref T.heap.size :: .ref T.heap.size :: rest, locked := none }) rfl (by rw [hb]; exact d4) _ hsteps
end NSW
theorem ns_words : ((nsAtoms RX10 (icOf 3).2).filter vx_no).all (fun w => decide (w ∈ lw_tbl) && (goodWord w || warmW w) && vx_ot w) = true := by decide +kernel
section NSM
variable {π : aP} {p : Program} {l : Launch} {e : Env} {R : Room} {s : State} {m : MethodId} {args : Array Value} {below : List Frame} {meth : Method} {c : Code}
variable {own : String} {cc : ByteArray} {nL nb : Nat} {I : aInfo} {Qr : Option Value → aW → Prop} {Qx : String → aW → Prop}
theorem endN_met {d : Nat} {mc ms : Nat} (hst : l.stackTraces = false) (hR : 8 + (d + 1) ≤ R.frames ∧ 200 + 60 * (d + 1) ≤ R.locals ∧ R.cells = I.1 ∧ R.slots = I.2.1) (hlocks : meth.locks = false) (htab : I.2.2.2 = [] → c.exceptionTable.toList = []) (h1 : I.1 = mc) (h2 : I.2.1 = ms) (C : CTX π own cc nL nb p s m args c) :
    ∀ (w : aW) (uc us pc : Nat) (st : List Value) (H : Heap) (locs : List Loc) (ls : Array Slot), thrJ own cc pc 3 → opThr I Qx 3 w uc us st → InvW π w s H locs → ls.size = nL → W p l e R s m args below meth c H locs uc us (vx_MQ below (QcA π Qr) (XcA π Qx) args s mc ms (PA π)) (F0 m pc ls (st.map (tV (Pad π)))) := by
  intro w uc us pc st H locs ls hj ho hI hls
  obtain ⟨hx, hb, hml, hown, hts, hK, hF, hsz, hnb⟩ := C
  obtain ⟨hP, hD, hS, hN⟩ := hI
  obtain ⟨is, text, sd, rfl, ha, d0, d3, hstr, hd⟩ := hj
  obtain ⟨g1, g2, g3, g4, g5, g6⟩ := ho
  obtain ⟨sa, hsa, -⟩ := hF.2.2.2.2.1 _ hstr
  obtain ⟨hl1, hl2⟩ := thr_link ha
  have hw : ∀ w ∈ (nsAtoms RX10 (icOf 3).2).filter vx_no, w ∈ lw_tbl ∧ (goodWord w = true ∨ warmW w = true) ∧ vx_ot w = true := by
    intro w hw
    have h1 := List.all_eq_true.mp ns_words w hw
    simp only [Bool.and_eq_true, Bool.or_eq_true, decide_eq_true_eq] at h1
    exact ⟨h1.1.1, h1.1.2, h1.2⟩
  have hat : ∀ w ∈ (nsAtoms RX10 (icOf 3).2).filter vx_no, w.before args s = true := fun w9 h9 => by
    obtain ⟨e1, e2, e3⟩ := hw w9 h9
    rcases e2 with e2 | e2
    · exact hts _ (List.mem_filter.mpr ⟨e1, e2⟩)
    · refine va_Nw.use ?_ (hF.2.2.2.2.2.1 _ e1 e2)
      cases w9 <;> first | rfl | exact absurd e2 (by simp [warmW])
  have hgood : ∀ w ∈ Cond.classLink RX10 (icOf 3).1 nsX :: Cond.initialized nsX :: (nsAtoms RX10 (icOf 3).2).filter vx_no, vx_ot w = true := by
    intro w9 h9
    rcases List.mem_cons.mp h9 with rfl | h9
    · rfl
    · rcases List.mem_cons.mp h9 with rfl | h9
      · rfl
      · exact (hw w9 h9).2.2
  have hcat : ((st.map (tV (Pad π))).map fun v => v.category).sum ≤ 8 := by rw [map_cat9]; exact g3
  have hx9 : ∀ t : State, s.vm.Alike t.vm → H.size ≤ t.heap.size → (∀ q : Nat, q < H.size → t.heap[q]? = H[q]?) → XcA π Qx nsX s t := fun t hv hs hq =>
    ⟨⟨w, g6, hP.kept (fun k q hk => hq _ ((hP k q hk).lt)), hD, hN⟩, Nat.le_trans hS.1 hs, fun q h1 h2 => (hq q (Nat.lt_of_lt_of_le h1 hS.1)).trans (hS.2.1 q h1 h2)⟩
  have hfr : 5 < R.frames := by have := hR.1; omega
  have hlo : ((st.map (tV (Pad π))).map fun v => v.category).sum + 82 ≤ R.locals := by have := hR.2.1; omega
  have hce : uc + 1 ≤ R.cells := by rw [hR.2.2.1]; exact g4
  have hsl : us + 6 ≤ R.slots := by rw [hR.2.2.2]; exact g5
  rcases hd with ⟨e4, e6, e9⟩ | ⟨e4, e7, e10⟩
  · exact ns_throw (k := 2) (sa := sa) (A := PA π) hx hb hst hown (hts _ hl1) (hts _ hl2) hsa hat hgood hF.1.1 hF.1.2 hS (by rw [hml]; exact hls) d0 d3 (Or.inl ⟨rfl, e4⟩) e6 e9 (fun x hx => by rw [htab g2] at hx; cases hx)
      hfr hlo hce hsl hlocks hx9 hS.2.2 (h1 ▸ g4) (h2 ▸ g5)
  · exact ns_throw (k := 3) (sa := sa) (A := PA π) hx hb hst hown (hts _ hl1) (hts _ hl2) hsa hat hgood hF.1.1 hF.1.2 hS (by rw [hml]; exact hls) d0 d3 (Or.inr ⟨rfl, e4⟩) e7 e10 (fun x hx => by rw [htab g2] at hx; cases hx)
      hfr hlo hce hsl hlocks hx9 hS.2.2 (h1 ▸ g4) (h2 ▸ g5)
end NSM
end
section
/-! soundness: every run of the abstract machine is one of the machine -/
theorem flL_at (π : aP) : ∀ (vs : List Value) (i j : Nat) (v : Value), (flL vs)[j]? = some (some v) → (i + j, tV (Pad π) v) ∈ lv_args i (vs.map (tV (Pad π))) := by
  intro vs
  induction vs with
  | nil => intro i j v h; simp [flL] at h
  | cons u vs ih =>
    intro i j v h
    by_cases hc : u.category = 2
    · have h1 : flL (u :: vs) = some u :: none :: flL vs := by simp [flL, hc]
      rw [h1] at h
      show _ ∈ (i, tV (Pad π) u) :: lv_args (if (tV (Pad π) u).category = 2 then i + 2 else i + 1) (vs.map (tV (Pad π)))
      rw [tV_cat, if_pos hc]
      match j, h with
      | 0, h => cases h; exact List.mem_cons_self
      | 1, h => cases h
      | j + 2, h =>
        have h2 := ih (i + 2) j v h
        rw [show i + (j + 2) = i + 2 + j by omega]
        exact List.mem_cons_of_mem _ h2
    · have h1 : flL (u :: vs) = some u :: flL vs := by simp [flL, hc]
      rw [h1] at h
      show _ ∈ (i, tV (Pad π) u) :: lv_args (if (tV (Pad π) u).category = 2 then i + 2 else i + 1) (vs.map (tV (Pad π)))
      rw [tV_cat, if_neg hc]
      match j, h with
      | 0, h => cases h; exact List.mem_cons_self
      | j + 1, h =>
        have h2 := ih (i + 1) j v h
        rw [show i + (j + 1) = i + 1 + j by omega]
        exact List.mem_cons_of_mem _ h2
theorem flL_len (π : aP) (vs : List Value) : (lg_sl (vs.map (tV (Pad π)))).length = (flL vs).length := by
  induction vs with
  | nil => rfl
  | cons u vs ih =>
    have e1 : lg_sl ((u :: vs).map (tV (Pad π))) = (if u.category = 2 then [.val (tV (Pad π) u), .second] else [.val (tV (Pad π) u)]) ++ lg_sl (vs.map (tV (Pad π))) := by
      simp [lg_sl, tV_cat]
    have e2 : flL (u :: vs) = (if u.category = 2 then [some u, none] else [some u]) ++ flL vs := by simp [flL]
    rw [e1, e2, List.length_append, List.length_append, ih]
    split <;> rfl
theorem LH_ent {π : aP} {vs : List Value} {n : Nat} (h : (flL vs).length ≤ n) : LH π ((lg_sl (vs.map (tV (Pad π))) ++ List.replicate (n - (lg_sl (vs.map (tV (Pad π)))).length) Slot.unset).toArray) n (entL vs n) := by
  have h1 := lv_entry (vs.map (tV (Pad π))) (n := n) (by rw [flL_len]; exact h)
  refine ⟨h1.1, ?_, h1.2.1, fun j v hj => ?_⟩
  · unfold entL
    rw [List.length_append, List.length_replicate]
    omega
  · unfold entL at hj
    by_cases hl : j < (flL vs).length
    · rw [List.getElem?_append_left hl] at hj
      have h2 := flL_at π vs 0 j v hj
      rw [Nat.zero_add] at h2
      exact h1.2.2 _ h2
    · rw [List.getElem?_append_right (by omega), List.getElem?_replicate] at hj
      split at hj <;> cases hj
/-- places of a method -/
def monoB : List Nat → Bool
  | a :: b :: r => decide (a < b) && monoB (b :: r)
  | _ => true
theorem monoB_ok : ∀ (l : List Nat), monoB l = true → ∀ x y, x < y → y < l.length → l.getD x 0 < l.getD y 0 := by
  intro l
  induction l with
  | nil => intro _ x y _ hy; exact absurd hy (Nat.not_lt_zero _)
  | cons a r ih =>
    intro h x y hxy hy
    match r, h, ih with
    | [], h, ih => simp at hy; omega
    | b :: r, h, ih =>
      simp only [monoB, Bool.and_eq_true, decide_eq_true_eq] at h
      have ih' := ih h.2
      match x, y, hxy with
      | 0, y + 1, _ =>
        have h1 : (b :: r).getD 0 0 ≤ (b :: r).getD y 0 := by
          cases y with
          | zero => exact Nat.le_refl _
          | succ y => exact Nat.le_of_lt (ih' 0 (y + 1) (by omega) (by simp at hy ⊢; omega))
        simp only [List.getD_cons_zero, List.getD_cons_succ] at h1 ⊢
        omega
      | x + 1, y + 1, _ =>
        simp only [List.getD_cons_succ]
        exact ih' x y (by omega) (by simp at hy ⊢; omega)
def hndB (own : String) (pc : List Nat) (len : Nat) : List (Nat × Nat × Nat × String) → List (Nat × Nat × Nat × Nat) → Bool
  | [], [] => true
  | (a, b, h, nm) :: r, (sp, ep, hp, ct) :: r' => decide (a ≤ len) && decide (b ≤ len) && decide (sp = pc.getD a 0) && decide (ep = pc.getD b 0) && decide (hp = pc.getD h 0) && decide (ct ≠ 0) && decide (Cond.classLink own ct nm ∈ lw_tbl) && ((List.range 4).any fun j => decide (nm = exN j)) && hndB own pc len r r'
  | _, _ => false
theorem hndB_ok {own : String} {pc : List Nat} {len : Nat} : ∀ (hs : List (Nat × Nat × Nat × String)) (xs : List (Nat × Nat × Nat × Nat)), hndB own pc len hs xs = true → HndOK own (fun j => pc.getD j 0) len hs xs := by
  intro hs
  induction hs with
  | nil =>
    intro xs h
    cases xs with
    | nil => exact trivial
    | cons x r => simp [hndB] at h
  | cons q r ih =>
    intro xs h
    cases xs with
    | nil => simp [hndB] at h
    | cons x r' =>
      obtain ⟨a, b, h9, nm⟩ := q
      obtain ⟨sp, ep, hp, ct⟩ := x
      simp only [hndB, Bool.and_eq_true, decide_eq_true_eq] at h
      obtain ⟨⟨⟨⟨⟨⟨⟨⟨h1, h2⟩, h3⟩, h4⟩, h5⟩, h6⟩, h7⟩, h8⟩, h10⟩ := h
      obtain ⟨j, hj1, hj2⟩ := List.any_eq_true.mp h8
      exact ⟨h1, h2, h3, h4, h5, h6, List.mem_filter.mpr ⟨h7, rfl⟩, ⟨j, List.mem_range.mp hj1, of_decide_eq_true hj2⟩, ih r' h10⟩
def chP (m : Nat) : Bool := let pc := pcL.getD m []
  decide (pc.getD 0 0 = 0) && monoB pc && decide (pc.length = (codeOf m).length + 1) && hndB (yOf m).cls pc (codeOf m).length (infoOf m).2.2.2 (exwOf m)
theorem cp_all : (List.range 344).all chP = true := by decide +kernel
theorem cp_ok {m : Nat} (h : m < 344) : pcOf m 0 = 0 ∧ (∀ x y, x < y → y ≤ (codeOf m).length → pcOf m x < pcOf m y) ∧ HndOK (yOf m).cls (pcOf m) (codeOf m).length (infoOf m).2.2.2 (exwOf m) := by
  have h1 := List.all_eq_true.mp cp_all m (List.mem_range.mpr h)
  unfold chP at h1
  simp only [Bool.and_eq_true, decide_eq_true_eq] at h1
  obtain ⟨⟨⟨h2, h3⟩, h4⟩, h5⟩ := h1
  exact ⟨h2, fun x y hxy hy => monoB_ok _ h3 x y hxy (by omega), hndB_ok _ _ h5⟩
theorem kind_lt {mid : Nat} (h : kindOf mid = 0 ∨ kindOf mid = 1 ∨ kindOf mid = 2) : mid < 344 := by
  rcases Nat.lt_or_ge mid 344 with h1 | h1
  · exact h1
  · exfalso
    have h2 : kindL.length = 345 := by decide +kernel
    rcases Nat.lt_or_ge mid 345 with h3 | h3
    · have : mid = 344 := by omega
      subst this
      have h4 : kindOf 344 = 3 := by decide +kernel
      omega
    · have h4 : kindOf mid = 9 := by
        unfold kindOf
        rw [List.getD_eq_getElem?_getD, List.getElem?_eq_none (by omega)]
        rfl
      omega
theorem hnd_nil {own : String} {pcs : Nat → Nat} {len : Nat} {xs : List (Nat × Nat × Nat × Nat)} (h : HndOK own pcs len [] xs) : xs = [] := by
  cases xs with
  | nil => rfl
  | cons x r => exact h.elim
/-- a body without handlers; the class need not be plainly named, if no row stands in for the method -/
theorem bd_ofF {l : Launch} {y : MethodName} {ws ws' : List Cond} {rm : Room} {Pc : Array Value → State → Prop} {Qc : Array Value → State → Outcome → State → Prop} {XC : String → State → State → Prop} {mc ms : Nat} {free : Addr → Prop} {cc : ByteArray} {maxL : Nat} {ret : Option FieldType}
    (hy : plainFor y = true) (hw : ws = Cond.code y cc maxL ret :: ws')
    (body : ∀ p e s m args below meth c s₁, BodyLoose p l y (headSpec ws rm) cc maxL ret e s m args below meth c s₁ → c.maxLocals = maxL → (∀ x ∈ c.exceptionTable.toList, False) → Pc args s →
      W p l e (headSpec ws rm).room s m args below meth c s.heap [] 0 0 (vx_MQ below Qc XC args s mc ms free) (entryFrame m args maxL)) : vx_Met l y ws rm Pc Qc XC mc ms free := by
  have hin : ∀ (args : Array Value) (s : State), (headSpec ws rm).pre.before args s = true → (Cond.code y cc maxL ret).before args s = true := fun args s h => atoms_spec (ws := ws) h _ (by rw [hw]; exact List.mem_cons_self)
  refine MetFree.of_bodySF (code := cc) (maxLocals := maxL) (ret := ret) hy (fun args s m h hn => ?_) (fun p e s m args below meth c s₁ B hml hP _ => ?_)
  · obtain ⟨meth, c, h1, h2, h3, h4, h5, h6, -, -⟩ := Cond.code_spec hn (hin args s h)
    exact ⟨meth, c, h1, h2, h3, h4, h5, h6⟩
  · obtain ⟨meth9, c9, h1, h2, -, -, -, -, h7, -⟩ := Cond.code_spec B.named (hin args s B.pre)
    cases Option.some.inj (h1.symm.trans B.method)
    cases Option.some.inj (h2.symm.trans (Stand.of_body B).code)
    have h0 : s₁.heap = s.heap := by rw [B.state]; rfl
    obtain ⟨t, a1, o, b1, b2, b3⟩ := body p e s m args below meth c s₁ B hml (fun x hx => by rw [Array.isEmpty_iff.mp h7] at hx; cases hx) hP s₁ h0 (Stand.of_body B)
    exact ⟨t, o, a1, b1, b2, b3⟩
theorem ev_sound {l : Launch} {π : aP} (hst : l.stackTraces = false) :
    ∀ (d mid : Nat) (av : List Value) (w : aW) (Qr : Option Value → aW → Prop) (Qx : String → aW → Prop), Ev π.2.2.2.2 d mid av w Qr Qx → MA l π d mid av w Qr Qx := by
  intro d
  induction d with
  | zero => intro mid av w Qr Qx h; exact h.elim
  | succ d ih =>
    intro mid av w Qr Qx h
    obtain ⟨hmid, hfl, hEx⟩ := h
    obtain ⟨y1, y2, y3, y4, y5, y6, y7, y8⟩ := chY_ok (cy_all hmid)
    obtain ⟨hp0, hmono, hnd⟩ := cp_ok hmid
    have hcode := chM_ok (cm_all hmid)
    have main : ∀ (p : Program) (e : Env) (s : State) (m : MethodId) (args : Array Value) (below : List Frame) (meth : Method) (c : Code) (s₁ : State), BodyLoose p l (yOf mid) (headSpec (codeW mid :: WS) (rmD (d + 1) (mbOf mid).1 (mbOf mid).2)) (bytOf mid) (mlOf mid) (retOf mid) e s m args below meth c s₁ → c.maxLocals = mlOf mid → c.exceptionTable.toList = tableOf (exwOf mid) → PcA π av w args s →
        W p l e (headSpec (codeW mid :: WS) (rmD (d + 1) (mbOf mid).1 (mbOf mid).2)).room s m args below meth c s.heap [] 0 0 (vx_MQ below (QcA π Qr) (XcA π Qx) args s (mbOf mid).1 (mbOf mid).2 (PA π)) (entryFrame m args (mlOf mid)) := by
      intro p e s m args below meth c s₁ B hml htab hv
      obtain ⟨rfl, hP, hD, hK, hF, hN, hsz, hex⟩ := hv
      have hts0 := atoms_spec (ws := codeW mid :: WS) B.pre
      have hts : ∀ w ∈ WS, w.before (av.map (tV (Pad π))).toArray s = true := fun w hw => hts0 w (List.mem_cons_of_mem _ hw)
      have C : CTX π (yOf mid).cls (bytOf mid) (mlOf mid) w.1 p s m (av.map (tV (Pad π))).toArray c := ⟨B.exec, B.bytes, hml, findClass_of_methodNamed B.named, hts, hK, hF, hsz, hex⟩
      have hR : 8 + (d + 1) ≤ (rmD (d + 1) (mbOf mid).1 (mbOf mid).2).frames ∧ 200 + 60 * (d + 1) ≤ (rmD (d + 1) (mbOf mid).1 (mbOf mid).2).locals ∧ (rmD (d + 1) (mbOf mid).1 (mbOf mid).2).cells = (infoOf mid).1 ∧ (rmD (d + 1) (mbOf mid).1 (mbOf mid).2).slots = (infoOf mid).2.1 := ⟨Nat.le_refl _, Nat.le_refl _, rfl, rfl⟩
      have hlocks : meth.locks = false := B.notSynchronized
      have htab0 : (infoOf mid).2.2.2 = [] → c.exceptionTable.toList = [] := fun h0 => by
        rw [h0] at hnd
        rw [htab, hnd_nil hnd]
        rfl
      rw [lg_entry_eq]
      have h9 := so_body (ini := ((yOf mid).name == "<init>")) hR (fun mid9 hk9 => cy_all (kind_lt hk9)) ih (fun hi => by rw [(name_of_methodNamed B.named B.method).1]; simpa using hi) hcode hmono hnd htab
        (endR_met (d := d) (Qr := Qr) (Qx := Qx) B.exec B.bytes hlocks B.returns rfl rfl) (endT_met hst hR hlocks htab0 rfl rfl C (endN_met hst hR hlocks htab0 rfl rfl C)) (endX_met hlocks htab0 rfl rfl) C hEx (⟨hP, hD, va_S.rf, hN⟩ : InvW π w s s.heap []) (LH_ent hfl)
      rw [hp0] at h9
      exact h9
    by_cases hex : exwOf mid = []
    · refine bd_ofF (cc := bytOf mid) (maxL := mlOf mid) (ret := retOf mid) y4.1 (by rw [codeW_nil hex]) (fun p e s m args below meth c s₁ B hml ht hv => ?_)
      exact main p e s m args below meth c s₁ B hml (by
        rw [hex]
        cases hc : c.exceptionTable.toList with
        | nil => rfl
        | cons x r => exact (ht x (by rw [hc]; exact List.mem_cons_self)).elim) hv
    · refine vx_ofWH (cc := bytOf mid) (maxL := mlOf mid) (ret := retOf mid) (hh := exwOf mid) (y4.2.resolve_left hex) (by rw [codeW_cons hex]) (fun p e s m args below meth c s₁ B hml hv => ?_)
      have hcw : (Cond.codeWith (yOf mid) (bytOf mid) (mlOf mid) (retOf mid) (exwOf mid)).before args s = true := by
        rw [← codeW_cons hex]
        exact atoms_spec (ws := codeW mid :: WS) B.pre _ List.mem_cons_self
      exact main p e s m args below meth c s₁ B hml (vx_table B hcw) hv
end
