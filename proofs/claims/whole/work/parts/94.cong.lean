/-! what is read of the world alone decides: cw_ -/
theorem acc_c {σ : Type} {body body' : Nat → σ → σ} {s : σ} : ∀ n, (∀ i, i < n → ∀ s, body i s = body' i s) → acc body s n = acc body' s n := by
  intro n
  induction n with
  | zero => intro _; rfl
  | succ n ih =>
    intro h
    rw [acc_s, acc_s, ih (fun i hi => h i (by omega)), h n (by omega)]
theorem cn_c {P P' : Nat → Bool} : ∀ n, (∀ i, i < n → P i = P' i) → cn P n = cn P' n := by
  intro n
  induction n with
  | zero => intro _; rfl
  | succ n ih =>
    intro h
    show cn P n + _ = cn P' n + _
    rw [ih (fun i hi => h i (by omega)), h n (by omega)]
theorem itF_c {σ ρ : Type} {step step' : Nat → σ → σ ⊕ ρ} {fin : σ → ρ} : ∀ k c s, (∀ i, c ≤ i → i < c + k → ∀ s, step i s = step' i s) → itF step fin k c s = itF step' fin k c s := by
  intro k
  induction k with
  | zero => intro c s _; rfl
  | succ k ih =>
    intro c s h
    unfold itF
    rw [h c (Nat.le_refl _) (by omega)]
    cases step' c s with
    | inl s' => exact ih _ _ (fun i h1 h2 => h i (by omega) (by omega))
    | inr r => rfl
theorem it_c {σ ρ : Type} {n c : Nat} {step step' : Nat → σ → σ ⊕ ρ} {fin : σ → ρ} {s : σ} (h : ∀ i, i < n → ∀ s, step i s = step' i s) : it n step fin c s = it n step' fin c s := by
  unfold it
  exact itF_c _ _ _ (fun i h1 h2 => h i (by omega))
theorem sinF_c {tu tu' : Nat → Int32} {t n : Int32} (h : ∀ c, c < 49 → tu c = tu' c) : sinF tu t n = sinF tu' t n := by
  unfold sinF
  exact it_c (fun i hi s => by
    try dsimp only
    rw [h i hi])
theorem fstN_c {tu tu' : Nat → Int32} {t : Int32} (h : ∀ c, c < 49 → tu c = tu' c) : fstN tu t = fstN tu' t := by
  unfold fstN
  exact it_c (fun i hi s => by
    try dsimp only
    rw [h i hi])
theorem patF_c {tu tu' : Nat → Int32} (h : ∀ c, c < 49 → tu c = tu' c) : patF tu = patF tu' := by
  unfold patF
  rw [sinF_c h, sinF_c h, cn_c 49 (fun i hi => by show (tu i == 8) = (tu' i == 8); rw [h i hi] : ∀ i, i < 49 → (fun c => tu c == 8) i = (fun c => tu' c == 8) i), cn_c 49 (fun i hi => by show (tu i == -8) = (tu' i == -8); rw [h i hi] : ∀ i, i < 49 → (fun c => tu c == -8) i = (fun c => tu' c == -8) i)]
section C
variable {f f' : Nat → Int32}
/-- the cells of print p are the same -/
def sameP (f f' : Nat → Int32) (p : Nat) : Prop := ∀ i, 5 + 97 * p ≤ i → i < 5 + 97 * p + 64 → f' i = f i
theorem turnF_c {p : Nat} (h : sameP f f' p) : ∀ c, c < 49 → turnF f' p c = turnF f p c := by
  intro c hc
  have e : ∀ x y, x < 8 → y < 8 → f' (5 + 97 * p + 8 * y + x) = f (5 + 97 * p + 8 * y + x) := fun x y hx hy => h _ (by omega) (by omega)
  unfold turnF cel
  rw [show arY (c / 7 + 1) 0 = c / 7 + 1 - 1 from rfl, show arY (c / 7 + 1) 1 = c / 7 + 1 - 1 from rfl, show arY (c / 7 + 1) 2 = c / 7 + 1 from rfl, show arY (c / 7 + 1) 3 = c / 7 + 1 from rfl, show arX (c % 7 + 1) 0 = c % 7 + 1 - 1 from rfl, show arX (c % 7 + 1) 1 = c % 7 + 1 from rfl, show arX (c % 7 + 1) 2 = c % 7 + 1 from rfl, show arX (c % 7 + 1) 3 = c % 7 + 1 - 1 from rfl]
  rw [e _ _ (by omega) (by omega), e _ _ (by omega) (by omega), e _ _ (by omega) (by omega), e _ _ (by omega) (by omega)]
theorem smI_c {h h' : Nat → Int32} {a : Nat} : ∀ k, (∀ i, a ≤ i → i < a + k → h i = h' i) → smI h a k = smI h' a k := by
  intro k
  induction k with
  | zero => intro _; rfl
  | succ k ih =>
    intro hh
    show smI h a k + h (a + k) = smI h' a k + h' (a + k)
    rw [ih (fun i h1 h2 => hh i h1 (by omega)), hh (a + k) (by omega) (by omega)]
theorem ridF_c {p : Nat} (h : sameP f f' p) : ridF f' p = ridF f p := by
  have ht := turnF_c h
  unfold ridF
  rw [patF_c ht]
  by_cases c : 1 ≤ patF (turnF f p) ∧ patF (turnF f p) ≤ 4
  · rw [if_pos c, if_pos c, fstN_c ht, fstN_c ht]
    obtain ⟨k1, k2⟩ := pat_cn c
    have l1 := (sin_fst k1).2
    have l2 := (sin_fst k2).2
    generalize fstN (turnF f p) 8 = ca at *
    generalize fstN (turnF f p) (-8) = ce at *
    unfold ridN rng
    rw [smI_c (h := gX f' p (ca / 7 + 1)) (h' := gX f p (ca / 7 + 1)) _ (fun i h1 h2 => by unfold gX; rw [h _ (by omega) (by omega)]), smI_c (h := gY f' p (ce % 7 + 1)) (h' := gY f p (ce % 7 + 1)) _ (fun i h1 h2 => by unfold gY; rw [h _ (by omega) (by omega)])]
  · rw [if_neg c, if_neg c]
theorem clsF_c {p : Nat} (h : sameP f f' p) : clsF f' p = clsF f p := by
  unfold clsF
  rw [patF_c (turnF_c h), ridF_c h]
theorem CeA_c {A : Nat → Nat → Int32} {q p : Nat} (h : sameP f f' p) (hc : CeA A q f p) : CeA A q f' p := fun k hk => by rw [h _ (by omega) (by omega)]; exact hc k hk
theorem CeR_c {p : Nat} (h : sameP f f' p) (hc : CeR f p) : CeR f' p := fun x y hx hy => by rw [h _ (by omega) (by omega)]; exact hc x y hx hy
theorem FoP_c {F : Nat → Nat → Int32} {q p : Nat} (h : sameP f f' p) (hc : FoP F q f p) : FoP F q f' p := by
  unfold FoP
  rw [patF_c (turnF_c h), ridF_c h, clsF_c h]
  exact hc
theorem LoD_c {F A : Nat → Nat → Int32} {l b th : Nat} (h : ∀ i, b < i → i < b + 33 → f' i = f i) (h8 : th ≤ 8) (hc : LoD F A f l b th) : LoD F A f' l b th := ⟨hc.1, fun j hj => by
  rw [h (b + 1 + 4 * j) (by omega) (by omega), h (b + 1 + 4 * j + 1) (by omega) (by omega), h (b + 1 + 4 * j + 2) (by omega) (by omega), h (b + 1 + 4 * j + 3) (by omega) (by omega)]
  exact hc.2 j hj⟩
/-- the points of two sheets and the slack are the same -/
def samS (f f' : Nat → Int32) (a : Nat) : Prop := ∀ i, a ≤ i → i < a + 33 → f' i = f i
theorem mayP_e {a b : Nat} {q sx sy : Int32} (h1 : f' 1 = f 1) (ha : ∀ i, a ≤ i → i < a + 4 → f' i = f i) (hb : ∀ i, b ≤ i → i < b + 4 → f' i = f i) : mayP f' a b q sx sy ↔ mayP f a b q sx sy := by
  unfold mayP
  rw [h1, ha a (by omega) (by omega), ha (a + 1) (by omega) (by omega), ha (a + 2) (by omega) (by omega), ha (a + 3) (by omega) (by omega), hb b (by omega) (by omega), hb (b + 1) (by omega) (by omega), hb (b + 2) (by omega) (by omega), hb (b + 3) (by omega) (by omega)]
theorem rowB_c {a b th : Nat} {q sx sy : Int32} {i ours : Nat} (h1 : f' 1 = f 1) (ha : samS f f' a) (hb : samS f f' b) (h8 : th ≤ 8) (ho8 : ours ≤ 8) (hi : i < ours) : rowB f' a b th q sx sy i = rowB f a b th q sx sy i := by
  unfold rowB bitsF
  refine acc_c th (fun j hj s => ?_)
  have := mayP_e (f := f) (f' := f') (a := a + 1 + 4 * i) (b := b + 1 + 4 * j) (q := q) (sx := sx) (sy := sy) h1 (fun i' h1 h2 => ha i' (by omega) (by omega)) (fun i' h1 h2 => hb i' (by omega) (by omega))
  by_cases hm : mayP f (a + 1 + 4 * i) (b + 1 + 4 * j) q sx sy
  · rw [if_pos (decide_eq_true (this.mpr hm)), if_pos (decide_eq_true hm)]
  · rw [if_neg (by rw [decide_eq_true_iff]; exact fun h => hm (this.mp h)), if_neg (by rw [decide_eq_true_iff]; exact hm)]
theorem pairsV_c {row row' : Nat → Int32} {ours th : Nat} (h8 : th ≤ 8) (ho8 : ours ≤ 8) (h : ∀ i, i < ours → row' i = row i) (hz : ∀ i, i < ours → ∀ j, th ≤ j → j < th → bt (row i) j = false) : pairsV row' ours th = pairsV row ours th :=
  (pair_rel (may := row') (may' := row) (ours := ours) (many := th) (many' := th) (ho := fun _ => -1) (ho' := fun _ => -1) (Nat.le_refl _) h8 ho8 h (fun i hi j h1 h2 => by omega) (fun _ _ => rfl) (fun j _ => Or.inl (show (-1 : Int32) < 0 by decide)) ours (Nat.le_refl _)).1
theorem triV_c {a b ours th : Nat} {x0 y0 x1 y1 q sx sy : Int32} {bb : bS} (h1 : f' 1 = f 1) (ha : samS f f' a) (hb : samS f f' b) (h8 : th ≤ 8) (ho8 : ours ≤ 8) : triV f' a b ours th x0 y0 x1 y1 q sx sy bb = triV f a b ours th x0 y0 x1 y1 q sx sy bb := by
  have hr : ∀ i, i < ours → rowB f' a b th q sx sy i = rowB f a b th q sx sy i := fun i hi => rowB_c h1 ha hb h8 ho8 hi
  unfold triV agN
  rw [pairsV_c h8 ho8 hr (fun _ _ j h1 h2 => by omega)]
  have e1 : cn (agA (rowB f' a b th q sx sy) f' a q sx sy) ours = cn (agA (rowB f a b th q sx sy) f a q sx sy) ours := cn_c ours (fun i hi => by
    unfold agA insB
    rw [hr i hi, ha (a + 1 + 4 * i) (by omega) (by omega), ha (a + 1 + 4 * i + 1) (by omega) (by omega)])
  have e2 : allB (rowB f' a b th q sx sy) ours = allB (rowB f a b th q sx sy) ours := acc_c ours (fun i hi s => by
    try dsimp only
    rw [hr i hi])
  rw [e1, e2]
  have e3 : cn (agB (allB (rowB f a b th q sx sy) ours) f' b x0 y0 x1 y1 q sx sy) th = cn (agB (allB (rowB f a b th q sx sy) ours) f b x0 y0 x1 y1 q sx sy) th := cn_c th (fun j hj => by
    unfold agB seenB btw
    rw [hb (b + 1 + 4 * j) (by omega) (by omega), hb (b + 2 + 4 * j) (by omega) (by omega)])
  rw [e3]
theorem layF_c {a b ours th : Nat} {x0 y0 x1 y1 : Int32} (h1 : f' 1 = f 1) (ha : samS f f' a) (hb : samS f f' b) (h8 : th ≤ 8) (ho8 : ours ≤ 8) : layF f' a b ours th x0 y0 x1 y1 = layF f a b ours th x0 y0 x1 y1 := by
  unfold layF
  congr 1
  unfold layQ
  refine acc_c 4 (fun q _ s => ?_)
  try dsimp only
  unfold layI
  refine acc_c ours (fun i hi s => ?_)
  try dsimp only
  unfold layJ
  refine acc_c th (fun j hj s => ?_)
  try dsimp only
  unfold sxF syF
  rw [triV_c h1 ha hb h8 ho8, ha (a + 1 + 4 * i) (by omega) (by omega), ha (a + 1 + 4 * i + 1) (by omega) (by omega), hb (b + 1 + 4 * j) (by omega) (by omega), hb (b + 1 + 4 * j + 1) (by omega) (by omega)]
theorem layMk_c {k p : Nat} (h1 : f' 1 = f 1) (hm : ∀ i, 5826 + 39 * k + 1 ≤ i → i < 5826 + 39 * k + 39 → f' i = f i) (hp : samS f f' (5 + 97 * p + 64)) (h8 : cN (f (5 + 97 * p + 64)) ≤ 8) (ho8 : cN (f (5826 + 39 * k + 6)) ≤ 8) : layMk f' k p = layMk f k p := by
  unfold layMk layM
  rw [hm (5826 + 39 * k + 6) (by omega) (by omega), hp (5 + 97 * p + 64) (by omega) (by omega), hm (5826 + 39 * k + 1) (by omega) (by omega), hm (5826 + 39 * k + 1 + 1) (by omega) (by omega), hm (5826 + 39 * k + 1 + 2) (by omega) (by omega), hm (5826 + 39 * k + 1 + 3) (by omega) (by omega)]
  exact layF_c h1 (fun i h1 h2 => hm i (by omega) (by omega)) hp h8 ho8
theorem layPq_c {p q : Nat} (h1 : f' 1 = f 1) (hp : samS f f' (5 + 97 * p + 64)) (hq : samS f f' (5 + 97 * q + 64)) (h8 : cN (f (5 + 97 * q + 64)) ≤ 8) (ho8 : cN (f (5 + 97 * p + 64)) ≤ 8) : layPq f' p q = layPq f p q := by
  unfold layPq
  rw [hp (5 + 97 * p + 64) (by omega) (by omega), hq (5 + 97 * q + 64) (by omega) (by omega)]
  exact layF_c h1 hp hq h8 ho8
/-- what lays of np prints and nm marks look at is the same -/
def samL (f f' : Nat → Int32) (np nm : Nat) : Prop := f' 1 = f 1 ∧ (∀ p, p < np → samS f f' (5 + 97 * p + 64)) ∧ ∀ k, k < nm → ∀ i, 5826 + 39 * k + 1 ≤ i → i < 5826 + 39 * k + 39 → f' i = f i
theorem lyK_c {k np nm : Nat} (h : samL f f' np nm) (hW : WP f) (h60 : np ≤ 60) (h20 : nm ≤ 20) (hk : keyOk k np nm) : lyK f' k = lyK f k := by
  obtain ⟨k1, k2⟩ := hk
  unfold lyK
  by_cases e : k / 60 < 20
  · rw [if_pos e, if_pos e]
    have e2 : k / 60 < nm := by rcases k2 with h | h; exact h; omega
    exact layMk_c h.1 (h.2.2 _ e2) (h.2.1 _ k1) (wp_p hW (by omega)) (wp_m hW (by omega))
  · rw [if_neg e, if_neg e]
    have e2 : k / 60 - 20 < np := by rcases k2 with h | h; omega; exact h.2
    exact layPq_c h.1 (h.2.1 _ e2) (h.2.1 _ k1) (wp_p hW (by omega)) (wp_p hW (by omega))
theorem KI.cong {F A : Nat → Nat → Int32} {np nm np' nm' v : Nat} (hK : KI F A f np nm v) (h : samL f f' np nm) (hW : WP f) (h60 : np ≤ 60) (h20 : nm ≤ 20) (hp : np ≤ np') (hm : nm ≤ nm') : KI F A f' np' nm' v := by
  refine ⟨hK.1, hK.2.1, fun k hk => ?_⟩
  obtain ⟨e, e1, e2, e3⟩ := hK.2.2 k hk
  refine ⟨e, e1, e2, fun hv => ?_⟩
  obtain ⟨h1, h2⟩ := e3 hv
  refine ⟨⟨by have := h1.1; omega, ?_⟩, by rw [h2, lyK_c h hW h60 h20 h1]⟩
  rcases h1.2 with h3 | h3
  · exact Or.inl (by omega)
  · exact Or.inr ⟨h3.1, by omega⟩
/-- the texts are the same -/
def samT (f f' : Nat → Int32) : Prop := ∀ i, 12825 ≤ i → f' i = f i
theorem bestT_c {day : Int32} {n : Nat} (h : samT f f') : bestT f' day n = bestT f day n := by
  unfold bestT
  refine acc_c n (fun t ht s => ?_)
  try dsimp only
  have e : ∀ c, f' (12826 + 850 * c) = f (12826 + 850 * c) := fun c => h _ (by omega)
  simp only [e]
theorem runH_c {t s n : Nat} {tg : Nat → Bool} {fc : Nat → Int32} (h : samT f f') : runH f' t tg fc s n = runH f t tg fc s n := by
  unfold runH
  refine acc_c n (fun k hk st => ?_)
  try dsimp only
  rw [h (cd t (s + k)) (by unfold cd; omega), h (cd t (s + k) + 1) (by unfold cd; omega)]
theorem holdR_c {t k : Nat} {tg : Nat → Bool} {fc : Nat → Int32} (h : samT f f') : holdR f' t k tg fc = holdR f t k tg fc := by
  unfold holdR holdF
  rw [h (rl t k + 2) (by unfold rl; omega), h (rl t k + 3) (by unfold rl; omega), runH_c h]
theorem rulC_c {t : Nat} (h : samT f f') : rulC f' t = rulC f t := by
  unfold rulC
  rw [h _ (by omega)]
theorem firstF_c {o : Option Nat} {so : Int32} {tg : Nat → Bool} {fc : Nat → Int32} (h : samT f f') : firstF f' o so tg fc = firstF f o so tg fc := by
  cases o with
  | none => rfl
  | some t =>
    show it (rulC f' t) (fun k (_ : Unit) => if f' (rl t k) = so ∧ holdR f' t k tg fc = true then .inr (nI k) else .inl ()) (fun _ => -1) 0 () = it (rulC f t) (fun k (_ : Unit) => if f (rl t k) = so ∧ holdR f t k tg fc = true then .inr (nI k) else .inl ()) (fun _ => -1) 0 ()
    rw [rulC_c h]
    refine it_c (fun k hk s => ?_)
    try dsimp only
    rw [h (rl t k) (by unfold rl; omega), holdR_c h]
theorem lastF_c {o : Option Nat} {so wo : Int32} (h : samT f f') : lastF f' o so wo = lastF f o so wo := by
  cases o with
  | none => rfl
  | some t =>
    rw [lastF_s, lastF_s, rulC_c h]
    refine acc_c _ (fun k hk s => ?_)
    try dsimp only
    rw [h (rl t k) (by unfold rl; omega), h (rl t k + 1) (by unfold rl; omega)]
theorem judF_c {o : Option Nat} {tg : Nat → Bool} {fc : Nat → Int32} (h : samT f f') : judF f' o tg fc = judF f o tg fc := by
  unfold judF
  rw [firstF_c h, firstF_c h]
theorem okH_s {t : Nat} (h : samT f f') : ∀ k i x, okH f t k i x → okH f' t k i x := okH_c (fun i hi => h i hi)
theorem TxS_c {F A : Nat → Nat → Int32} {q t r : Nat} (h : samT f f') (hT : TxS F A q f t r) : TxS F A q f' t r := by
  obtain ⟨r12, h1, h2, h0, hn, N, hN, hR, hE⟩ := hT
  have e : ∀ k, f' (rl t k) = f (rl t k) ∧ f' (rl t k + 1) = f (rl t k + 1) ∧ f' (rl t k + 2) = f (rl t k + 2) ∧ f' (rl t k + 3) = f (rl t k + 3) := fun k => ⟨h _ (by unfold rl; omega), h _ (by unfold rl; omega), h _ (by unfold rl; omega), h _ (by unfold rl; omega)⟩
  refine ⟨r12, h1, by rw [h _ (by omega)]; exact h2, by rw [h _ (by omega)]; exact h0, fun n hnr => ?_, N, hN, fun n hnr => ?_, fun i hi => ?_⟩
  · rw [(e n).1, (e n).2.1, (e n).2.2.1, (e n).2.2.2]; exact hn n hnr
  · obtain ⟨a1, ⟨v, a2, a3, a4⟩, s, e2, b1, b2, b3, b4, b5⟩ := hR n hnr
    refine ⟨by rw [(e n).1]; exact a1, ⟨v, a2, by rw [(e n).2.1]; exact a3, by rw [(e n).1]; exact a4⟩, s, e2, b1, b2, by rw [(e n).2.2.1]; exact b3, by rw [(e n).2.2.2]; exact b4, okH_s h _ _ _ b5⟩
  · rw [h (cd t i) (by unfold cd; omega), h (cd t i + 1) (by unfold cd; omega)]; exact hE i hi
theorem TxO_c {F A : Nat → Nat → Int32} {q : Nat} {o : Option Nat} (h : samT f f') (hT : TxO F A q f o) : TxO F A q f' o := by
  cases o with
  | none => exact hT
  | some t =>
    obtain ⟨r, hr⟩ := hT
    exact ⟨r, TxS_c h hr⟩
end C
