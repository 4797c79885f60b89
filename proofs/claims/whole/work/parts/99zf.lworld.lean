/-! class and reference in one world; cw_ -/
def oE (o : Nat → Int64) : va_E := .inl (1, 1, .inr (.inl o))
/-- the law's world: the class's objects, the reference's, the row for answers -/
def lW (w : aW) (o : Nat → Int64) (F A : Nat → Nat → Int32) (L : Nat → Int64) (m f : Nat → Int32) (RA : Nat → Nat → Int32) (RB : Nat → Nat → Int64) : aW := cW (rW (aUp w 1438 (oE o)) m f RA RB) F A L
section LW
variable {w : aW} {o : Nat → Int64} {F A : Nat → Nat → Int32} {L : Nat → Int64} {m f : Nat → Int32} {RA : Nat → Nat → Int32} {RB : Nat → Nat → Int64}
theorem cw_rw : cW (rW w m f RA RB) F A L = rW (cW w F A L) m f RA RB := by
  show ((w.1, fun q => cE F A L q (rC m f RA RB q (w.2 q)) (shp q)) : aW) = (w.1, fun q => rC m f RA RB q (cE F A L q (w.2 q) (shp q)))
  refine congrArg (Prod.mk w.1) (funext fun q => ?_)
  rcases Nat.lt_or_ge q 1424 with h | h
  · rw [rC_o (Or.inl h), rC_o (Or.inl h)]
  · rw [shp_ge h]
    rfl
theorem lW_r : lW w o F A L m f RA RB = rW (cW (aUp w 1438 (oE o)) F A L) m f RA RB := cw_rw
theorem rw_uO {e : va_E} : aUp (rW w m f RA RB) 1438 e = rW (aUp w 1438 e) m f RA RB := by
  show ((w.1, va_up (fun q => rC m f RA RB q (w.2 q)) 1438 e) : aW) = (w.1, fun q => rC m f RA RB q (va_up w.2 1438 e q))
  refine congrArg (Prod.mk w.1) (funext fun q => ?_)
  unfold va_up
  by_cases h : q = 1438
  · subst h
    rw [if_pos rfl, if_pos rfl, rC_o (Or.inr (Nat.le_refl _))]
  · rw [if_neg h, if_neg h]
theorem cw_uO {e : va_E} : aUp (cW w F A L) 1438 e = cW (aUp w 1438 e) F A L := by
  show ((w.1, va_up (fun q => cE F A L q (w.2 q) (shp q)) 1438 e) : aW) = (w.1, fun q => cE F A L q (va_up w.2 1438 e q) (shp q))
  refine congrArg (Prod.mk w.1) (funext fun q => ?_)
  unfold va_up
  by_cases h : q = 1438
  · subst h
    rw [if_pos rfl, if_pos rfl, shp_ge (by omega)]
    rfl
  · rw [if_neg h, if_neg h]
theorem up_up {e e' : va_E} : aUp (aUp w 1438 e) 1438 e' = aUp w 1438 e' := by
  show ((w.1, va_up (va_up w.2 1438 e) 1438 e') : aW) = (w.1, va_up w.2 1438 e')
  refine congrArg (Prod.mk w.1) (funext fun q => ?_)
  unfold va_up
  by_cases h : q = 1438
  · rw [if_pos h, if_pos h]
  · rw [if_neg h, if_neg h, if_neg h]
theorem lW_o {o' : Nat → Int64} : aUp (lW w o F A L m f RA RB) 1438 (oE o') = lW w o' F A L m f RA RB := by
  unfold lW
  rw [cw_uO, rw_uO, up_up]
theorem lW_at (hn : w.1 = N0) : aAt (lW w o F A L m f RA RB) 1438 (oE o) := by
  refine ⟨by show 1438 < w.1; rw [hn]; decide, ?_⟩
  show cE F A L 1438 (rC m f RA RB 1438 (va_up w.2 1438 (oE o) 1438)) (shp 1438) = oE o
  rw [shp_ge (by omega), rC_o (Or.inr (Nat.le_refl _))]
  unfold va_up
  rw [if_pos rfl]
  rfl
end LW
/-- how a wrapper ends -/
def wQ (w : aW) (F A : Nat → Nat → Int32) (m f : Nat → Int32) (RA : Nat → Nat → Int32) (RB : Nat → Nat → Int64) (f1 : Nat → Int32) (v : Nat) (thr : Int32) (ans : Int64) : Option Value → aW → Prop := fun r W' => r = some (.int thr) ∧ ∃ F' A' L' o' np nm nc nt ns nh v', W' = lW w o' F' A' L' m f RA RB ∧ v' ≤ v + 1 ∧ stI F A F' A' f1 np nm nc nt ns nh v' ∧ (thr = 0 → o' 0 = ans)
theorem wq_x {w : aW} {o : Nat → Int64} {F A : Nat → Nat → Int32} {L : Nat → Int64} {m f : Nat → Int32} {RA : Nat → Nat → Int32} {RB : Nat → Nat → Int64} {f1 : Nat → Int32} {np nm nc nt ns nh v : Nat} {thr x : Int32} {ans : Int64} (hK : KI F A f np nm v) (hR : RS F A f 6 np nm nc nt ns nh) (hI : IV f np nm nc nt ns nh) (hx : x = thr) (h0 : ¬ thr = 0) (hf : ¬ thr = 0 → f1 = f) : wQ w F A m f RA RB f1 v thr ans (some (.int x)) (lW w o F A L m f RA RB) := by
  have e := hf h0
  subst e
  exact ⟨by rw [hx], F, A, L, o, np, nm, nc, nt, ns, nh, v, rfl, Nat.le_succ _, ⟨hR, hI, hK, fun _ _ => ⟨rfl, rfl⟩⟩, fun h => absurd h h0⟩
section K
variable {f f' : Nat → Int32} {np nm nc nt ns nh : Nat}
theorem IV.di (hI : IV f np nm nc nt ns nh) (hT : WT f nt) : DI f nt nc nm ns := ⟨hT, hI.wp, hI.wf, hI.1.2.1.1, hI.m20, hI.1.2.2.2.2.1.1, hI.s200, nh, hI.h200, hI.1.2.2.2.2.2.1⟩
theorem IV.dj (hI : IV f np nm nc nt ns nh) (hT : WT f nt) : DJ f nt nc nm ns := by
  obtain ⟨⟨a, ha, ea⟩, b, hb, eb⟩ := hI.2.1
  refine ⟨hI.di hT, ?_, ?_, ?_, ?_⟩
  · rw [eb, show cN (nI b) = b from nI_clamp (by omega)]
  · rw [eb, show cN (nI b) = b from nI_clamp (by omega)]; exact hb
  · rw [ea, show cN (nI a) = a from nI_clamp (by omega)]
  · rw [ea, show cN (nI a) = a from nI_clamp (by omega)]; exact ha
theorem IV.h4 (hI : IV f np nm nc nt ns nh) : ∀ c, c < nc → cn (dbt f c) 10 ≤ 4 := fun c hc => by
  refine Nat.le_trans (cn_mono fun j hj hd => ?_) (hI.ca hc).2.2.2.2
  unfold dbt at hd
  exact decide_eq_true (of_decide_eq_true hd).1
def agH (nc : Nat) (h h' : Nat → Int32) : Prop := ∀ i, i < nc → h i = h' i
theorem jS_c {n nc a b : Nat} {day need : Int32} {h h' : Nat → Int32} (hh : agH nc h h') (ha : a < nc) (hb : b < nc) : agH nc (jS f n nc day need a b h) (jS f n nc day need a b h') := by
  intro i hi
  unfold jS
  rw [← hh a ha, ← hh b hb]
  by_cases c : h a < 0 ∨ h b < 0 ∨ h a = h b ∨ nI (alkN f n (min a b) (max a b) day 10) < need
  · rw [if_pos c, if_pos c]; exact hh i hi
  · rw [if_neg c, if_neg c, mrg_at, mrg_at, hh i hi]
theorem jB_c {n nc a : Nat} {day need : Int32} {h h' : Nat → Int32} (hh : agH nc h h') (ha : a < nc) : ∀ k, k ≤ nc - (a + 1) → agH nc (jB f n nc day need a h k) (jB f n nc day need a h' k) := by
  intro k
  induction k with
  | zero => intro _; exact hh
  | succ k ih => intro hk; exact jS_c (ih (by omega)) ha (by omega)
theorem jA_c {n nc : Nat} {day need : Int32} {h h' : Nat → Int32} (hh : agH nc h h') : ∀ a, a ≤ nc → agH nc (jA f n nc day need h a) (jA f n nc day need h' a) := by
  intro a
  induction a with
  | zero => intro _; exact hh
  | succ a ih => intro ha; exact jB_c (ih (by omega)) (by omega) _ (Nat.le_refl _)
/-- what lay there before counts for nothing -/
theorem leastF_c {n nc : Nat} {day : Int32} {o o' : Nat → Int32} : agH nc (leastF f n nc day o) (leastF f n nc day o') := jA_c (fun i hi => by rw [lst0_at nc i hi, lst0_at nc i hi]) nc (Nat.le_refl _)
theorem perB_c {nc : Nat} {b : Bool} {l l' : Nat → Int32} (h : agH nc l l') : cn (perB f l nc b) nc = cn (perB f l' nc b) nc := by
  refine cn_c nc fun i hi => ?_
  have ha : ∀ k, i + 1 + k ≤ nc → anyF (twoB f l i) (i + 1) k = anyF (twoB f l' i) (i + 1) k := by
    intro k
    induction k with
    | zero => intro _; rfl
    | succ k ih =>
      intro hk
      show (anyF (twoB f l i) (i + 1) k || twoB f l i (i + 1 + k)) = (anyF (twoB f l' i) (i + 1) k || twoB f l' i (i + 1 + k))
      rw [ih (by omega)]
      unfold twoB
      rw [h (i + 1 + k) (by omega)]
  unfold perB
  rw [h i hi, ha _ (by omega)]
theorem cpyI_at {a b : Nat → Int32} : ∀ n i, cpyI a b n i = if i < n then a i else b i := by
  intro n
  induction n with
  | zero => intro i; rw [if_neg (by omega)]; rfl
  | succ n ih =>
    intro i
    show upd (cpyI a b n) n (a n) i = _
    by_cases e : i = n
    · subst e
      rw [upd_at, if_pos (Nat.lt_succ_self _)]
    · rw [upd_ne e, ih]
      by_cases h : i < n
      · rw [if_pos h, if_pos (by omega)]
      · rw [if_neg h, if_neg (by omega)]
/-- the text t is the same -/
def smT (f f' : Nat → Int32) (t : Nat) : Prop := ∀ i, 12826 + 850 * t ≤ i → i < 12826 + 850 * t + 850 → f' i = f i
theorem okH_b {t : Nat} (h : smT f f' t) : ∀ k i x, i + k ≤ 400 → okH f t k i x → okH f' t k i x := by
  intro k
  induction k with
  | zero => intro i x _ ho; exact ho
  | succ k ih =>
    intro i x hl ho
    have e : f' (cd t i) = f (cd t i) := h _ (by unfold cd; omega) (by unfold cd; omega)
    rcases ho with ⟨h1, h2, h3⟩ | ⟨h1, h2, h3⟩ | ⟨⟨c, h1, h2⟩, h3, h4⟩
    · exact Or.inl ⟨by rw [e]; exact h1, h2, ih _ _ (by omega) h3⟩
    · exact Or.inr (Or.inl ⟨by rw [e]; exact h1, h2, ih _ _ (by omega) h3⟩)
    · exact Or.inr (Or.inr ⟨⟨c, h1, by rw [e]; exact h2⟩, h3, ih _ _ (by omega) h4⟩)
theorem TxS_b {F A : Nat → Nat → Int32} {q t r : Nat} (h : smT f f' t) (hT : TxS F A q f t r) : TxS F A q f' t r := by
  obtain ⟨r12, h1, h2, h0, hn, N, hN, hR, hE⟩ := hT
  have er : ∀ n j, n < 12 → j < 4 → f' (rl t n + j) = f (rl t n + j) := fun n j hn hj => h _ (by unfold rl; omega) (by unfold rl; omega)
  have er0 : ∀ n, n < 12 → f' (rl t n) = f (rl t n) := fun n hn => er n 0 hn (by decide)
  refine ⟨r12, h1, by rw [h _ (by omega) (by omega)]; exact h2, by rw [h _ (by omega) (by omega)]; exact h0, fun n hr => ?_, N, hN, fun n hr => ?_, fun i hi => ?_⟩
  · rw [er0 n (by omega), er n 1 (by omega) (by decide), er n 2 (by omega) (by decide), er n 3 (by omega) (by decide)]
    exact hn n hr
  · obtain ⟨⟨s, a1, a2⟩, ⟨v, b1, b2, b3⟩, x, y, c1, c2, c3, c4, c5⟩ := hR n hr
    refine ⟨⟨s, a1, by rw [er0 n (by omega)]; exact a2⟩, ⟨v, b1, by rw [er n 1 (by omega) (by decide)]; exact b2, by rw [er0 n (by omega)]; exact b3⟩, x, y, c1, c2, by rw [er n 2 (by omega) (by decide)]; exact c3, by rw [er n 3 (by omega) (by decide)]; exact c4, okH_b h _ _ _ (by omega) c5⟩
  · rw [h (cd t i) (by unfold cd; omega) (by unfold cd; omega), h (cd t i + 1) (by unfold cd; omega) (by unfold cd; omega)]
    exact hE i hi
theorem RS_b {F A : Nat → Nat → Int32} {B : Nat} (hI : IV f np nm nc nt ns nh) (h : ∀ i, i < 21326 → f' i = f i) (hR : RS F A f B np nm nc nt ns nh) : RS F A f' B np nm nc nt ns nh := by
  have h60 := hI.p60; have h20 := hI.m20; have h16 := hI.c16; have h10 := hI.t10; have h200 := hI.s200; have hh200 := hI.h200
  have hW := hI.wp
  obtain ⟨⟨r0, r1, r2, r3, r4⟩, rP, rM, rC, rT, rN, rS, rH⟩ := hR
  refine ⟨⟨by rw [h 0 (by omega)]; exact r0, by rw [h 1 (by omega)]; exact r1, by rw [h 2 (by omega)]; exact r2, by rw [h 3 (by omega)]; exact r3, r4⟩, fun p hp => (rP p hp).cong (wp_p hW (by omega)) (fun i h1 h2 => h i (by omega)), fun k hk => (rM k hk).cong (wp_m hW (by omega)) (fun i h1 h2 => h i (by omega)), fun c hc => (rC c hc).cong (fun i h1 h2 => h i (by omega)) (fun k j hk hj => by rw [h _ (by omega)]), fun t ht => ?_, rN, rS.cong (fun i h1 h2 => h i (by omega)), rH.cong (fun i h1 h2 => h i (by omega))⟩
  obtain ⟨r, hr⟩ := rT t ht
  exact ⟨r, TxS_b (fun i h1 h2 => h i (by omega)) hr⟩
theorem IV_b (hI : IV f np nm nc nt ns nh) (h : ∀ i, i < 21326 → f' i = f i) : IV f' np nm nc nt ns nh := by
  have h60 := hI.p60; have h20 := hI.m20; have h16 := hI.c16; have h10 := hI.t10; have h200 := hI.s200; have hh200 := hI.h200
  obtain ⟨⟨c1, c2, c3, c4, c5, c6⟩, ⟨n1, n2⟩, hW, ⟨hp1, hp2⟩, ⟨hm1, hm2⟩, ⟨hc1, hc2⟩, ht, hs⟩ := hI
  refine ⟨⟨?_, ?_, ?_, ?_, ?_, ?_⟩, ⟨?_, ?_⟩, ⟨fun p hp => ?_, fun k hk => ?_⟩, ⟨fun p hp => CeR_c (fun i h1 h2 => h i (by omega)) (hp1 p hp), fun p h1 h2 => by rw [h _ (by omega)]; exact hp2 p h1 h2⟩, ⟨fun k hk => by rw [h (5826 + 39 * k) (by omega), h (5826 + 39 * k + 5) (by omega)]; exact hm1 k hk, fun k h1 h2 => by rw [h _ (by omega)]; exact hm2 k h1 h2⟩, ⟨fun c hc => ?_, fun k c j h1 h2 h3 h4 => by rw [h _ (by omega)]; exact hc2 k c j h1 h2 h3 h4⟩, fun t htn => by rw [h _ (by omega)]; exact ht t htn, fun r hr => ?_⟩
  · rw [h 4 (by omega)]; exact c1
  · rw [h 5825 (by omega)]; exact c2
  · rw [h 6606 (by omega)]; exact c3
  · rw [h 12825 (by omega)]; exact c4
  · rw [h 10223 (by omega)]; exact c5
  · rw [h 11424 (by omega)]; exact c6
  · rw [h 0 (by omega)]; exact n1
  · rw [h 2 (by omega)]; exact n2
  · rw [h (5 + 97 * p + 64) (by omega)]; exact hW.1 p hp
  · rw [h (5826 + 39 * k + 6) (by omega)]; exact hW.2 k hk
  · obtain ⟨a1, a2, a3, a4, a5⟩ := hc1 c hc
    refine ⟨by rw [h _ (by omega)]; exact a1, by rw [h _ (by omega)]; exact a2, fun t ht => by rw [h _ (by omega)]; exact a3 t ht, fun j hj => by rw [h (6607 + 26 * c + (6 + j)) (by omega), h (6607 + 26 * c + (16 + j)) (by omega)]; exact a4 j hj, ?_⟩
    rw [cn_c (P' := fun j => decide (0 ≤ f (6607 + 26 * c + (16 + j)))) 10 (fun j hj => by rw [h _ (by omega)])]
    exact a5
  · have := hs r hr
    unfold SaI at this ⊢
    rw [h (10224 + 6 * r) (by omega), h (10224 + 6 * r + 1) (by omega), h (10224 + 6 * r + 2) (by omega), h (10224 + 6 * r + 3) (by omega), h (10224 + 6 * r + 4) (by omega), h (10224 + 6 * r + 5) (by omega)]
    exact this
end K
