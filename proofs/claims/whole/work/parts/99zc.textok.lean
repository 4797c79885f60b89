/-! a text that was read is one of rules as they should be -/
/-- steps that leave one value more, D places above at most -/
def SL (D : Nat) (L : List (Int32 × Int32)) : Prop := ∀ (f : Nat → Int32) (t i h m : Nat), (∀ k x, L[k]? = some x → f (cd t (i + k)) = x.1) → h + D ≤ 30 → okH f t m (i + L.length) (h + 1) → okH f t (L.length + m) i h
theorem SL.mono {D D' : Nat} {L : List (Int32 × Int32)} (h : SL D L) (hd : D ≤ D') : SL D' L := fun f t i x m h1 h2 h3 => h f t i x m h1 (by omega) h3
theorem SL.one {c : Nat} {v : Int32} (hc : c < 4 ∨ (100 ≤ c ∧ c < 105) ∨ (200 ≤ c ∧ c < 205)) : SL 1 [(nI c, v)] := fun f t i h m h1 h2 h3 => by
  have e : f (cd t i) = nI c := h1 0 _ rfl
  show okH f t (1 + m) i h
  rw [Nat.add_comm]
  exact Or.inr (Or.inr ⟨⟨c, hc, e⟩, by omega, h3⟩)
theorem SL.op {D D' : Nat} {op : Int32} {L L' : List (Int32 × Int32)} (h : SL D L) (h' : SL D' L') (ho : op = 301 ∨ op = 302) (hd : D' + 1 ≤ D) : SL D (L ++ (L' ++ [(op, 0)])) := fun f t i x m h1 h2 h3 => by
  have e : (L ++ (L' ++ [(op, 0)])).length + m = L.length + (L'.length + (m + 1)) := by
    rw [List.length_append, List.length_append]
    show L.length + (L'.length + 1) + m = _
    omega
  rw [e]
  have e2 : i + (L ++ (L' ++ [(op, 0)])).length = i + L.length + L'.length + 1 := by
    rw [List.length_append, List.length_append]
    show i + (L.length + (L'.length + 1)) = _
    omega
  rw [e2] at h3
  refine h f t i x _ (fun k y hy => ?_) h2 (h' f t (i + L.length) (x + 1) _ (fun k y hy => ?_) (by omega) (Or.inr (Or.inl ⟨?_, by omega, h3⟩)))
  · refine h1 k y ?_
    have hk : k < L.length := by
      rcases Nat.lt_or_ge k L.length with h5 | h5
      · exact h5
      · rw [List.getElem?_eq_none h5] at hy; cases hy
    rw [List.getElem?_append_left hk]
    exact hy
  · have hk : k < L'.length := by
      rcases Nat.lt_or_ge k L'.length with h5 | h5
      · exact h5
      · rw [List.getElem?_eq_none h5] at hy; cases hy
    have := h1 (L.length + k) y (by
      rw [List.getElem?_append_right (by omega), show L.length + k - L.length = k by omega, List.getElem?_append_left hk]
      exact hy)
    rw [show i + (L.length + k) = i + L.length + k by omega] at this
    exact this
  · have := h1 (L.length + L'.length) (op, 0) (by
      rw [List.getElem?_append_right (by omega), show L.length + L'.length - L.length = L'.length by omega, List.getElem?_append_right (Nat.le_refl _), Nat.sub_self]
      rfl)
    rw [show i + (L.length + L'.length) = i + L.length + L'.length by omega] at this
    rw [this]
    exact ho
theorem SL.not {D : Nat} {L : List (Int32 × Int32)} (h : SL D L) : SL D (L ++ [(300, 0)]) := fun f t i x m h1 h2 h3 => by
  have e : (L ++ [(300, 0)]).length + m = L.length + (m + 1) := by
    rw [List.length_append]
    show L.length + 1 + m = _
    omega
  rw [e]
  have e2 : i + (L ++ [(300, 0)]).length = i + L.length + 1 := by
    rw [List.length_append]
    rfl
  rw [e2] at h3
  refine h f t i x _ (fun k y hy => ?_) h2 (Or.inl ⟨?_, by omega, h3⟩)
  · refine h1 k y ?_
    have hk : k < L.length := by
      rcases Nat.lt_or_ge k L.length with h5 | h5
      · exact h5
      · rw [List.getElem?_eq_none h5] at hy; cases hy
    rw [List.getElem?_append_left hk]
    exact hy
  · exact h1 L.length (300, 0) (by
      rw [List.getElem?_append_right (Nat.le_refl _), Nat.sub_self]
      rfl)
def ISL (D : Nat) (item : Nat → PR) : Prop := ∀ p, (item p).1 = true → SL D (item p).2.2.2
section K
variable {t : Nat → Int32} {en : Nat}
theorem pLoop_sl {item : Nat → PR} {k D : Nat} {op : Int32} (hI : ISL D item) (ho : op = 301 ∨ op = 302) : ∀ n p L, SL (D + 1) L → (pLoop item t en k op n p L).1 = true → SL (D + 1) (pLoop item t en k op n p L).2.2.2 := by
  intro n
  induction n with
  | zero => intro p L _ h; exact absurd h (by show ¬ false = true; decide)
  | succ n ih =>
    intro p L hL h
    unfold pLoop at h ⊢
    by_cases c1 : wdB t (wE t en p) (wS t en p) k = true
    · rw [if_pos c1] at h ⊢
      by_cases c2 : (item (wE t en p)).1 = true
      · rw [if_pos c2] at h ⊢
        exact ih _ _ (hL.op (hI _ c2) ho (Nat.le_refl _)) h
      · rw [if_neg c2] at h; exact absurd h (by show ¬ false = true; decide)
    · rw [if_neg c1]
      exact hL
theorem pSeq_sl {item : Nat → PR} {k D : Nat} {op : Int32} (hI : ISL D item) (ho : op = 301 ∨ op = 302) : ISL (D + 1) (pSeq item t en k op) := by
  intro p h
  unfold pSeq at h ⊢
  by_cases c : (item p).1 = true
  · rw [if_pos c] at h ⊢
    exact pLoop_sl hI ho _ _ _ ((hI p c).mono (Nat.le_succ _)) h
  · rw [if_neg c] at h; exact absurd h (by show ¬ false = true; decide)
theorem pFact_sl {p i op : Nat} (hi : i < 5) (ho : op = 100 ∨ op = 200) (h : (pFact t en p i op).1 = true) : SL 1 (pFact t en p i op).2.2.2 := by
  unfold pFact at h ⊢
  by_cases c : numR t en (wS t en p) 0 9999 < 0
  · rw [if_pos c] at h; exact absurd h (by show ¬ false = true; decide)
  · rw [if_neg c]
    exact SL.one (by omega)
theorem pWord_sl {p : Nat} (h : (pWord t en p).1 = true) : SL 1 (pWord t en p).2.2.2 := by
  unfold pWord at h ⊢
  match e : fiW t (wE t en p) (wS t en p) [9, 10, 11, 12] 0 with
  | some i =>
    have hl := (fiW_s _ _ _ e).2.2
    have hl : i < 0 + 4 := hl
    exact SL.one (by omega)
  | none =>
    rw [e] at h
    match e2 : fiW t (wE t en p) (wS t en p) [13, 14, 15, 16, 17] 0 with
    | none => rw [e2] at h; exact absurd h (by show ¬ false = true; decide)
    | some i =>
      rw [e2] at h
      have hl := (fiW_s _ _ _ e2).2.2
      have hl : i < 0 + 5 := hl
      dsimp only at h ⊢
      by_cases c1 : sgB t en (wE t en p) 60 = true
      · rw [if_pos c1] at h ⊢
        exact pFact_sl (by omega) (Or.inl rfl) h
      · rw [if_neg c1] at h ⊢
        by_cases c2 : sgB t en (wE t en p) 62 = true
        · rw [if_pos c2] at h ⊢
          exact pFact_sl (by omega) (Or.inr rfl) h
        · rw [if_neg c2] at h; exact absurd h (by show ¬ false = true; decide)
theorem atomF_sl {cond atom : Nat → PR} {dp : Bool} {D : Nat} (hc : ISL D cond ∨ dp = true) (ha : ISL D atom ∨ dp = true) (hD : 1 ≤ D) : ISL D (atomF cond atom dp t en) := by
  intro p h
  unfold atomF at h ⊢
  by_cases c1 : sgB t en p 40 = true
  · rw [if_pos c1] at h ⊢
    by_cases c2 : dp = true
    · rw [if_pos c2] at h; exact absurd h (by show ¬ false = true; decide)
    · rw [if_neg c2] at h ⊢
      by_cases c3 : (cond (wS t en p + 1)).1 = true
      · rw [if_pos c3] at h ⊢
        by_cases c4 : sgB t en (cond (wS t en p + 1)).2.1 41 = true
        · rw [if_pos c4]
          exact (hc.resolve_right c2) _ c3
        · rw [if_neg c4] at h; exact absurd h (by show ¬ false = true; decide)
      · rw [if_neg c3] at h; exact absurd h (by show ¬ false = true; decide)
  · rw [if_neg c1] at h ⊢
    by_cases c2 : wdB t (wE t en p) (wS t en p) 8 = true
    · rw [if_pos c2] at h ⊢
      by_cases c3 : dp = true
      · rw [if_pos c3] at h; exact absurd h (by show ¬ false = true; decide)
      · rw [if_neg c3] at h ⊢
        by_cases c4 : (atom (wE t en p)).1 = true
        · rw [if_pos c4]
          exact ((ha.resolve_right c3) _ c4).not
        · rw [if_neg c4] at h; exact absurd h (by show ¬ false = true; decide)
    · rw [if_neg c2] at h ⊢
      exact (pWord_sl h).mono hD
theorem pAtom_sl : ∀ r, ISL (1 + 2 * r) (pAtom t en r) := by
  intro r
  induction r with
  | zero => exact atomF_sl (Or.inr rfl) (Or.inr rfl) (Nat.le_refl _)
  | succ r ih => exact atomF_sl (Or.inl (pSeq_sl (pSeq_sl ih (Or.inl rfl)) (Or.inr rfl))) (Or.inl (fun p h => (ih p h).mono (by omega))) (by omega)
theorem pCond_sl : ISL 15 (pCond t en 6) := pSeq_sl (pSeq_sl (pAtom_sl 6) (Or.inl rfl)) (Or.inr rfl)
theorem pIf_sl {p s : Nat} (h : (pIf t en p s).1 = true) : (pIf t en p s).2.2.2 = [] ∨ SL 15 (pIf t en p s).2.2.2 := by
  unfold pIf at h ⊢
  by_cases c : wdB t (wE t en p) (wS t en p) 7 = true
  · rw [if_pos c] at h ⊢
    by_cases c2 : (pCond t en 6 (wE t en p)).1 = true
    · rw [if_pos c2]
      exact Or.inr (pCond_sl _ c2)
    · rw [if_neg c2] at h; exact absurd h (by show ¬ false = true; decide)
  · rw [if_neg c]
    exact Or.inl rfl
theorem pRule_sl {n p : Nat} (h : (pRule t en n p).1 = true) : ((pRule t en n p).2.2.2 = [] ∨ SL 15 (pRule t en n p).2.2.2) ∧ ∃ s, sortW t en p = some s ∧ s < 6 ∧ ∃ v, v ≤ 9999 ∧ nrW t en p s = nI v ∧ (s = 2 → 1 ≤ v) := by
  unfold pRule at h ⊢
  by_cases c : n = 12
  · rw [if_pos c] at h; exact absurd h (by show ¬ false = true; decide)
  rw [if_neg c] at h ⊢
  match e : sortW t en p with
  | none => rw [e] at h; exact absurd h (by show ¬ false = true; decide)
  | some s =>
    rw [e] at h
    dsimp only at h ⊢
    have hl := (fiW_s _ _ _ e).2.2
    have hl : s < 0 + 6 := hl
    by_cases c1 : 2 ≤ s ∧ s ≤ 4
    · rw [if_pos c1] at h ⊢
      by_cases c2 : numR t en (wS t en (wE t en p)) (loS s) (hiS s) < 0
      · rw [if_pos c2] at h; exact absurd h (by show ¬ false = true; decide)
      rw [if_neg c2] at h ⊢
      have hN := numR_ok c2
      have hh : hiS s ≤ 9999 := by
        unfold hiS
        split
        · decide
        · split <;> decide
      obtain ⟨v, hv, ev⟩ := nI_of2 (M := 9999) (n := 9999) rfl c2 (Int32.le_trans hN.2 hh)
      refine ⟨?_, s, rfl, by omega, v, hv, (if_pos c1).trans ev, fun h2 => ?_⟩
      · by_cases c3 : s = 4
        · rw [if_pos c3] at h ⊢
          exact pIf_sl h
        · rw [if_neg c3]
          exact Or.inl rfl
      · have h3 := hN.1
        rw [ev] at h3
        have e1 : loS s = nI 1 := by
          unfold loS
          rw [if_neg (by omega)]
          rfl
        rw [e1] at h3
        exact (nI_leI (by omega) (by omega)).mp h3
    · rw [if_neg c1] at h ⊢
      exact ⟨pIf_sl h, s, rfl, by omega, 0, by omega, if_neg c1, fun h2 => absurd ⟨by omega, by omega⟩ c1⟩
/-- rows and steps as they should be -/
def RTL (rows : List RW4) (steps : List (Int32 × Int32)) : Prop := ∀ (i : Nat) (r : RW4), rows[i]? = some r → r.1 < 6 ∧ (∃ v, v ≤ 9999 ∧ r.2.1 = nI v ∧ (r.1 = 2 → 1 ≤ v)) ∧ r.2.2.1 ≤ r.2.2.2 ∧ r.2.2.2 ≤ steps.length ∧ ∀ (f : Nat → Int32) (t : Nat), (∀ k x, steps[k]? = some x → f (cd t k) = x.1) → okH f t (r.2.2.2 - r.2.2.1) r.2.2.1 0
theorem RTL.add {rows : List RW4} {steps L : List (Int32 × Int32)} {s : Nat} {N : Int32} (h : RTL rows steps) (h6 : s < 6) (hN : ∃ v, v ≤ 9999 ∧ N = nI v ∧ (s = 2 → 1 ≤ v)) (hL : L = [] ∨ SL 15 L) : RTL (rows ++ [(s, N, steps.length, steps.length + L.length)]) (steps ++ L) := fun i r hr => by
  rcases Nat.lt_or_ge i rows.length with l | l
  · rw [List.getElem?_append_left l] at hr
    obtain ⟨a1, a2, a3, a4, a5⟩ := h i r hr
    refine ⟨a1, a2, a3, by rw [List.length_append]; omega, fun f t hf => a5 f t (fun k x hk => hf k x ?_)⟩
    have hk2 : k < steps.length := by
      rcases Nat.lt_or_ge k steps.length with h5 | h5
      · exact h5
      · rw [List.getElem?_eq_none h5] at hk; cases hk
    rw [List.getElem?_append_left hk2]
    exact hk
  · rw [List.getElem?_append_right l] at hr
    have e0 : i - rows.length = 0 := by
      rcases Nat.eq_zero_or_pos (i - rows.length) with h5 | h5
      · exact h5
      · obtain ⟨m, hm⟩ : ∃ m, i - rows.length = m + 1 := ⟨i - rows.length - 1, by omega⟩
        rw [hm] at hr
        simp at hr
    rw [e0] at hr
    have e1 : (s, N, steps.length, steps.length + L.length) = r := by simpa using hr
    subst e1
    refine ⟨h6, hN, Nat.le_add_right _ _, by rw [List.length_append]; exact Nat.le_refl _, fun f t hf => ?_⟩
    show okH f t (steps.length + L.length - steps.length) steps.length 0
    rw [show steps.length + L.length - steps.length = L.length by omega]
    rcases hL with rfl | hL
    · exact Nat.zero_le _
    · exact hL f t steps.length 0 0 (fun k x hk => hf (steps.length + k) x (by
        rw [List.getElem?_append_right (by omega), show steps.length + k - steps.length = k by omega]
        exact hk)) (by omega) (Nat.le_refl 1)
theorem pRules_ok : ∀ k n p rows steps, p ≤ en → steps.length ≤ p → RTL rows steps → (pRules t en k n p rows steps).1 = true → RTL (pRules t en k n p rows steps).2.2.1 (pRules t en k n p rows steps).2.2.2 ∧ (pRules t en k n p rows steps).2.2.2.length ≤ en := by
  intro k
  induction k with
  | zero => intro n p rows steps _ _ _ h; exact absurd h (by show ¬ false = true; decide)
  | succ k ih =>
    intro n p rows steps hp hl hR h
    unfold pRules at h ⊢
    by_cases c1 : (pRule t en n p).1 = true
    · rw [if_pos c1] at h ⊢
      obtain ⟨h1, s, h2, h3, h4⟩ := pRule_sl c1
      have hb := pRule_b hp c1
      have e : (sortW t en p).getD 0 = s := by rw [h2]; rfl
      rw [e] at h ⊢
      have hA := hR.add h3 h4 h1
      have hlen : (steps ++ (pRule t en n p).2.2.2).length ≤ (pRule t en n p).2.1 := by rw [List.length_append]; omega
      by_cases c2 : wS t en (pRule t en n p).2.1 = en
      · rw [if_pos c2]
        exact ⟨hA, Nat.le_trans hlen hb.2.1⟩
      · rw [if_neg c2] at h ⊢
        by_cases c3 : 59 ≤ t (wS t en (pRule t en n p).2.1) ∧ t (wS t en (pRule t en n p).2.1) ≤ 59
        · rw [if_pos c3] at h ⊢
          have g1 := wS_le (t := t) hb.2.1
          have g2 := wS_ge (t := t) (en := en) (p := (pRule t en n p).2.1)
          exact ih _ _ _ _ (by omega) (by omega) hA h
        · rw [if_neg c3] at h; exact absurd h (by show ¬ false = true; decide)
    · rw [if_neg c1] at h; exact absurd h (by show ¬ false = true; decide)
theorem RTL.nil : RTL [] [] := fun i r h => by simp at h
theorem pText_ok (h : (pText t en 0).1 = true) : RTL (pText t en 0).2.2.1 (pText t en 0).2.2.2 ∧ (pText t en 0).2.2.2.length ≤ en := by
  unfold pText at h ⊢
  by_cases c : wS t en 0 = en
  · rw [if_pos c]
    exact ⟨RTL.nil, Nat.zero_le _⟩
  · rw [if_neg c] at h ⊢
    exact pRules_ok _ _ _ _ _ (wS_le (Nat.zero_le _)) (Nat.zero_le _) RTL.nil h
end K
