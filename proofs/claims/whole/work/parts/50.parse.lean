/-! how conditions are read -/
theorem mset_x : True := trivial
def sgB (t : Nat → Int32) (en p : Nat) (c : Int32) : Bool := decide (wS t en p < en ∧ c ≤ t (wS t en p) ∧ t (wS t en p) ≤ c)
/-- what a reading gives: whether it is right, where it ends, where its last word began, the steps -/
abbrev PR : Type := Bool × Nat × Nat × List (Int32 × Int32)
def pLoop (item : Nat → PR) (t : Nat → Int32) (en k : Nat) (op : Int32) : Nat → Nat → List (Int32 × Int32) → PR
  | 0, p, L => (false, p, p, L)
  | n + 1, p, L => if wdB t (wE t en p) (wS t en p) k = true then (if (item (wE t en p)).1 = true then pLoop item t en k op n (item (wE t en p)).2.1 (L ++ ((item (wE t en p)).2.2.2 ++ [(op, 0)])) else (false, 0, (item (wE t en p)).2.2.1, [])) else (true, wS t en p, wS t en p, L)
def pSeq (item : Nat → PR) (t : Nat → Int32) (en k : Nat) (op : Int32) (p : Nat) : PR := if (item p).1 = true then pLoop item t en k op (en + 1) (item p).2.1 (item p).2.2.2 else (false, 0, (item p).2.2.1, [])
/-- where the tag's or fact's word stands among its like -/
def fiW (t : Nat → Int32) (e s : Nat) : List Nat → Nat → Option Nat
  | [], _ => none
  | k :: ks, i => if wdB t e s k = true then some i else fiW t e s ks (i + 1)
def pFact (t : Nat → Int32) (en p : Nat) (i : Nat) (op : Nat) : PR := if numR t en (wS t en p) 0 9999 < 0 then (false, 0, wS t en p, []) else (true, runs t en 48 57 (wS t en p), wS t en p, [(nI (op + i), numR t en (wS t en p) 0 9999)])
def pWord (t : Nat → Int32) (en p : Nat) : PR := match fiW t (wE t en p) (wS t en p) [9, 10, 11, 12] 0 with
  | some i => (true, wE t en p, wS t en p, [(nI i, 0)])
  | none => match fiW t (wE t en p) (wS t en p) [13, 14, 15, 16, 17] 0 with
    | none => (false, 0, wS t en p, [])
    | some i => if sgB t en (wE t en p) 60 = true then pFact t en (wS t en (wE t en p) + 1) i 100 else if sgB t en (wE t en p) 62 = true then pFact t en (wS t en (wE t en p) + 1) i 200 else (false, 0, wS t en (wE t en p), [])
def atomF (cond atom : Nat → PR) (deepest : Bool) (t : Nat → Int32) (en p : Nat) : PR := if sgB t en p 40 = true then (if deepest = true then (false, 0, wS t en p, []) else if (cond (wS t en p + 1)).1 = true then (if sgB t en (cond (wS t en p + 1)).2.1 41 = true then (true, wS t en (cond (wS t en p + 1)).2.1 + 1, wS t en (cond (wS t en p + 1)).2.1, (cond (wS t en p + 1)).2.2.2) else (false, 0, wS t en (cond (wS t en p + 1)).2.1, [])) else (false, 0, (cond (wS t en p + 1)).2.2.1, [])) else if wdB t (wE t en p) (wS t en p) 8 = true then (if deepest = true then (false, 0, wS t en p, []) else if (atom (wE t en p)).1 = true then (true, (atom (wE t en p)).2.1, (atom (wE t en p)).2.2.1, (atom (wE t en p)).2.2.2 ++ [(300, 0)]) else (false, 0, (atom (wE t en p)).2.2.1, [])) else pWord t en p
/-- an atom, r levels still allowed -/
def pAtom (t : Nat → Int32) (en : Nat) : Nat → Nat → PR
  | 0 => atomF (fun _ => (false, 0, 0, [])) (fun _ => (false, 0, 0, [])) true t en
  | r + 1 => atomF (pSeq (pSeq (pAtom t en r) t en 18 301) t en 19 302) (pAtom t en r) false t en
def pAll (t : Nat → Int32) (en r : Nat) : Nat → PR := pSeq (pAtom t en r) t en 18 301
def pCond (t : Nat → Int32) (en r : Nat) : Nat → PR := pSeq (pAll t en r) t en 19 302
/-- a right reading goes on, and writes no more steps than it reads signs -/
def IB (en : Nat) (item : Nat → PR) : Prop := ∀ p, p ≤ en → (item p).1 = true → p + (item p).2.2.2.length ≤ (item p).2.1 ∧ p < (item p).2.1 ∧ (item p).2.1 ≤ en
theorem wd_len {t : Nat → Int32} {e s k : Nat} (h : wdB t e s k = true) : e - s = txN k := (wd_iff.mp h).1
theorem wS_ge {t : Nat → Int32} {en p : Nat} : p ≤ wS t en p := runs_ge
theorem wE_ge {t : Nat → Int32} {en p : Nat} : wS t en p ≤ wE t en p := runs_ge
theorem wS_le {t : Nat → Int32} {en p : Nat} (h : p ≤ en) : wS t en p ≤ en := runs_le h
theorem wE_le {t : Nat → Int32} {en p : Nat} (h : p ≤ en) : wE t en p ≤ en := runs_le (runs_le h)
theorem pLoop_b {item : Nat → PR} {t : Nat → Int32} {en k : Nat} {op : Int32} (hI : IB en item) (hk : 1 ≤ txN k) : ∀ n p L p0, p ≤ en → p0 + L.length ≤ p → p0 < p → (pLoop item t en k op n p L).1 = true → p0 + (pLoop item t en k op n p L).2.2.2.length ≤ (pLoop item t en k op n p L).2.1 ∧ p0 < (pLoop item t en k op n p L).2.1 ∧ (pLoop item t en k op n p L).2.1 ≤ en := by
  intro n
  induction n with
  | zero => intro p L p0 h1 h2 h3 h4; exact absurd h4 (by show ¬ false = true; decide)
  | succ n ih =>
    intro p L p0 h1 h2 h3 h4
    have a1 := wS_ge (t := t) (en := en) (p := p)
    have a2 := wE_ge (t := t) (en := en) (p := p)
    have a3 := wE_le (t := t) h1
    have a4 := wS_le (t := t) h1
    unfold pLoop at h4 ⊢
    by_cases c1 : wdB t (wE t en p) (wS t en p) k = true
    · have c1' := wd_len c1
      rw [if_pos c1] at h4 ⊢
      by_cases c2 : (item (wE t en p)).1 = true
      · rw [if_pos c2] at h4 ⊢
        have b := hI _ a3 c2
        refine ih _ _ _ b.2.2 ?_ (by omega) h4
        rw [List.length_append, List.length_append]
        show p0 + (L.length + ((item (wE t en p)).2.2.2.length + 1)) ≤ _
        omega
      · rw [if_neg c2] at h4
        exact absurd h4 (by show ¬ false = true; decide)
    · rw [if_neg c1] at h4 ⊢
      exact ⟨by show p0 + L.length ≤ wS t en p; omega, by show p0 < wS t en p; omega, a4⟩
theorem pSeq_b {item : Nat → PR} {t : Nat → Int32} {en k : Nat} {op : Int32} (hI : IB en item) (hk : 1 ≤ txN k) : IB en (pSeq item t en k op) := by
  intro p hp h
  unfold pSeq at h ⊢
  by_cases c : (item p).1 = true
  · rw [if_pos c] at h ⊢
    have b := hI p hp c
    exact pLoop_b hI hk _ _ _ p b.2.2 b.1 b.2.1 h
  · rw [if_neg c] at h
    exact absurd h (by show ¬ false = true; decide)
theorem fiW_s {t : Nat → Int32} {e s : Nat} : ∀ (ks : List Nat) i j, fiW t e s ks i = some j → (∃ k ∈ ks, wdB t e s k = true) ∧ i ≤ j ∧ j < i + ks.length := by
  intro ks
  induction ks with
  | nil => intro i j h; cases h
  | cons k ks ih =>
    intro i j h
    unfold fiW at h
    by_cases c : wdB t e s k = true
    · rw [if_pos c] at h
      cases h
      exact ⟨⟨k, List.mem_cons_self, c⟩, Nat.le_refl _, by rw [List.length_cons]; omega⟩
    · rw [if_neg c] at h
      obtain ⟨⟨k', h1, h2⟩, h3, h4⟩ := ih _ _ h
      exact ⟨⟨k', List.mem_cons_of_mem _ h1, h2⟩, by omega, by rw [List.length_cons]; omega⟩
theorem pFact_b {t : Nat → Int32} {en p i op : Nat} (hp : p ≤ en) (h : (pFact t en p i op).1 = true) : p + 1 ≤ (pFact t en p i op).2.1 ∧ (pFact t en p i op).2.1 ≤ en ∧ (pFact t en p i op).2.2.2.length = 1 := by
  unfold pFact at h ⊢
  by_cases c : numR t en (wS t en p) 0 9999 < 0
  · rw [if_pos c] at h; exact absurd h (by show ¬ false = true; decide)
  · rw [if_neg c]
    have a1 := wS_ge (t := t) (en := en) (p := p)
    have a2 : wS t en p ≤ runs t en 48 57 (wS t en p) := runs_ge
    refine ⟨?_, runs_le (wS_le hp), rfl⟩
    show p + 1 ≤ runs t en 48 57 (wS t en p)
    rcases Nat.lt_or_ge (wS t en p) (runs t en 48 57 (wS t en p)) with h1 | h1
    · omega
    · exfalso
      apply c
      unfold numR
      rw [if_pos (Or.inl (by omega))]
      decide
theorem sgB_lt {t : Nat → Int32} {en p : Nat} {c : Int32} (h : sgB t en p c = true) : wS t en p < en := (of_decide_eq_true h).1
theorem pWord_b {t : Nat → Int32} {en p : Nat} (hp : p ≤ en) (h : (pWord t en p).1 = true) : p + (pWord t en p).2.2.2.length ≤ (pWord t en p).2.1 ∧ p < (pWord t en p).2.1 ∧ (pWord t en p).2.1 ≤ en := by
  have a1 := wS_ge (t := t) (en := en) (p := p)
  have a2 := wE_ge (t := t) (en := en) (p := p)
  have a3 := wE_le (t := t) hp
  have b1 := wS_ge (t := t) (en := en) (p := wE t en p)
  have hk : ∀ k ∈ ([9, 10, 11, 12, 13, 14, 15, 16, 17] : List Nat), 1 ≤ txN k := by decide
  unfold pWord at h ⊢
  match e : fiW t (wE t en p) (wS t en p) [9, 10, 11, 12] 0 with
  | some i =>
    rw [e] at h
    obtain ⟨⟨k, h1, h2⟩, -⟩ := fiW_s _ _ _ e
    have h3 := wd_len h2
    have h4 : 1 ≤ txN k := hk k (by simp at h1 ⊢; omega)
    exact ⟨by show p + 1 ≤ wE t en p; omega, by show p < wE t en p; omega, a3⟩
  | none =>
    rw [e] at h
    match e2 : fiW t (wE t en p) (wS t en p) [13, 14, 15, 16, 17] 0 with
    | none => rw [e2] at h; exact absurd h (by show ¬ false = true; decide)
    | some i =>
      rw [e2] at h
      dsimp only at h ⊢
      by_cases c1 : sgB t en (wE t en p) 60 = true
      · rw [if_pos c1] at h ⊢
        have l := sgB_lt c1
        have := pFact_b (show wS t en (wE t en p) + 1 ≤ en by omega) h
        omega
      · rw [if_neg c1] at h ⊢
        by_cases c2 : sgB t en (wE t en p) 62 = true
        · rw [if_pos c2] at h ⊢
          have l := sgB_lt c2
          have := pFact_b (show wS t en (wE t en p) + 1 ≤ en by omega) h
          omega
        · rw [if_neg c2] at h
          exact absurd h (by show ¬ false = true; decide)
theorem atomF_b {cond atom : Nat → PR} {dp : Bool} {t : Nat → Int32} {en : Nat} (hc : IB en cond ∨ dp = true) (ha : IB en atom ∨ dp = true) : IB en (atomF cond atom dp t en) := by
  intro p hp h
  have a1 := wS_ge (t := t) (en := en) (p := p)
  have a2 := wE_ge (t := t) (en := en) (p := p)
  have a3 := wE_le (t := t) hp
  unfold atomF at h ⊢
  by_cases c1 : sgB t en p 40 = true
  · rw [if_pos c1] at h ⊢
    by_cases c2 : dp = true
    · rw [if_pos c2] at h; exact absurd h (by show ¬ false = true; decide)
    · rw [if_neg c2] at h ⊢
      by_cases c3 : (cond (wS t en p + 1)).1 = true
      · rw [if_pos c3] at h ⊢
        by_cases c4 : sgB t en (cond (wS t en p + 1)).2.1 41 = true
        · rw [if_pos c4]
          have l := sgB_lt c4
          have b := (hc.resolve_right c2) _ (show wS t en p + 1 ≤ en by have := sgB_lt c1; omega) c3
          have b2 := wS_ge (t := t) (en := en) (p := (cond (wS t en p + 1)).2.1)
          exact ⟨by show p + (cond (wS t en p + 1)).2.2.2.length ≤ wS t en (cond (wS t en p + 1)).2.1 + 1; omega, by show p < wS t en (cond (wS t en p + 1)).2.1 + 1; omega, by show wS t en (cond (wS t en p + 1)).2.1 + 1 ≤ en; omega⟩
        · rw [if_neg c4] at h; exact absurd h (by show ¬ false = true; decide)
      · rw [if_neg c3] at h; exact absurd h (by show ¬ false = true; decide)
  · rw [if_neg c1] at h ⊢
    by_cases c2 : wdB t (wE t en p) (wS t en p) 8 = true
    · rw [if_pos c2] at h ⊢
      by_cases c3 : dp = true
      · rw [if_pos c3] at h; exact absurd h (by show ¬ false = true; decide)
      · rw [if_neg c3] at h ⊢
        by_cases c4 : (atom (wE t en p)).1 = true
        · rw [if_pos c4]
          have b := (ha.resolve_right c3) _ a3 c4
          have l := wd_len c2
          have l3 : txN 8 = 3 := by decide
          refine ⟨?_, by show p < (atom (wE t en p)).2.1; omega, b.2.2⟩
          show p + ((atom (wE t en p)).2.2.2 ++ [(300, 0)]).length ≤ (atom (wE t en p)).2.1
          rw [List.length_append]
          show p + ((atom (wE t en p)).2.2.2.length + 1) ≤ _
          omega
        · rw [if_neg c4] at h; exact absurd h (by show ¬ false = true; decide)
    · rw [if_neg c2] at h ⊢
      exact pWord_b hp h
theorem pAtom_b (t : Nat → Int32) (en : Nat) : ∀ r, IB en (pAtom t en r) := by
  intro r
  induction r with
  | zero => exact atomF_b (Or.inr rfl) (Or.inr rfl)
  | succ r ih => exact atomF_b (Or.inl (pSeq_b (pSeq_b ih (by decide)) (by decide))) (Or.inl ih)
/-- steps written from step st on -/
def wrL (f : Nat → Int32) (st : Nat) : List (Int32 × Int32) → Nat → Int32
  | [] => f
  | x :: L => wrL (upd (upd f (21376 + 2 * st) x.1) (21376 + 2 * st + 1) x.2) (st + 1) L
theorem wrL_app : ∀ (L L' : List (Int32 × Int32)) (f : Nat → Int32) (st : Nat), wrL f st (L ++ L') = wrL (wrL f st L) (st + L.length) L' := by
  intro L
  induction L with
  | nil => intro L' f st; rfl
  | cons x L ih =>
    intro L' f st
    show wrL _ (st + 1) (L ++ L') = _
    rw [ih, show st + 1 + L.length = st + (x :: L).length by rw [List.length_cons]; omega]
    rfl
theorem wrL_lo : ∀ (L : List (Int32 × Int32)) (f : Nat → Int32) (st i : Nat), i < 21376 + 2 * st → wrL f st L i = f i := by
  intro L
  induction L with
  | nil => intro f st i h; rfl
  | cons x L ih =>
    intro f st i h
    show wrL _ (st + 1) L i = _
    rw [ih _ _ _ (by omega), pk_un (by omega), pk_un (by omega)]
/-- what a reading leaves -/
def PQ (w : aW) (m f : Nat → Int32) (A : Nat → Nat → Int32) (B : Nat → Nat → Int64) (st : Nat) (R : PR) : Option Value → aW → Prop := fun v w' => v = some (.int (bI R.1)) ∧ ∃ m' f', w' = rW w m' f' A B ∧ m' 8 = nI R.2.2.1 ∧ (∀ k, k ≠ 6 → k ≠ 8 → k ≠ 9 → k ≠ 23 → m' k = m k) ∧ (∀ i, i < 21376 → f' i = f i) ∧ (R.1 = true → m' 6 = nI R.2.1 ∧ m' 9 = m 9 ∧ m' 23 = nI (st + R.2.2.2.length) ∧ f' = wrL f st R.2.2.2)
