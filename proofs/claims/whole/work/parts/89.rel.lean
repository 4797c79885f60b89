/-! the State of the class and the reference's world; cw_ -/
/-- the print at q is f's print p -/
def RsP (F A : Nat → Nat → Int32) (f : Nat → Int32) (q p : Nat) : Prop := CeA A q f p ∧ FoP F q f p ∧ LoD F A f (q + 2) (5 + 97 * p + 64) (cN (f (5 + 97 * p + 64))) ∧ (F (q + 2) 5 = 0 ∧ F (q + 2) 6 = 0 ∧ F (q + 2) 7 = 63 ∧ F (q + 2) 8 = 63)
def RsM (F A : Nat → Nat → Int32) (f : Nat → Int32) (q k : Nat) : Prop := LoD F A f (q + 1) (5826 + 39 * k + 6) (cN (f (5826 + 39 * k + 6))) ∧ (F (q + 1) 5 = f (5826 + 39 * k + 1) ∧ F (q + 1) 6 = f (5826 + 39 * k + 1 + 1) ∧ F (q + 1) 7 = f (5826 + 39 * k + 1 + 2) ∧ F (q + 1) 8 = f (5826 + 39 * k + 1 + 3)) ∧ F q 1 = f (5826 + 39 * k + 5) ∧ F q 2 = f (5826 + 39 * k)
def RsC (F A : Nat → Nat → Int32) (f : Nat → Int32) (q c : Nat) : Prop := (F q 0 = f (6607 + 26 * c + 0) ∧ F q 1 = f (6607 + 26 * c + 1) ∧ F q 2 = f (6607 + 26 * c + 2)) ∧ (∀ j, j < 10 → A (q + 1) j = f (6607 + 26 * c + (6 + j)) ∧ A (q + 2) j = f (6607 + 26 * c + (16 + j)) ∧ ∀ k, k < 20 → bt (A (q + 3) j) k = decide (¬ f (7023 + 10 * (16 * k + c) + j) = 0)) ∧ ∀ t, t < 3 → A (q + 4) t = f (6607 + 26 * c + (3 + t))
def RsTab (F A : Nat → Nat → Int32) (q wd a : Nat) (f : Nat → Int32) (n : Nat) : Prop := F q 3 = nI n ∧ ∀ r, r < n → ∀ c, c < wd → A (q + 1) (r * wd + c) = f (a + wd * r + c)
/-- the State at B is the world f -/
def RS (F A : Nat → Nat → Int32) (f : Nat → Int32) (B np nm nc nt ns nh : Nat) : Prop :=
  (F B 0 = f 0 ∧ F B 1 = f 1 ∧ F B 2 = f 2 ∧ F B 3 = f 3 ∧ F B 4 = nI np ∧ F B 5 = nI nm ∧ F B 6 = nI nc ∧ F B 7 = nI nt)
  ∧ (∀ p, p < np → RsP F A f (B + 15 + 7 * p) p) ∧ (∀ k, k < nm → RsM F A f (B + 435 + 6 * k) k) ∧ (∀ c, c < nc → RsC F A f (B + 555 + 5 * c) c) ∧ (∀ t, t < nt → ∃ r, TxS F A (B + 635 + 6 * t) f t r)
  ∧ F (B + 5) 1 = 0 ∧ RsTab F A (B + 11) 6 10224 f ns ∧ RsTab F A (B + 13) 7 11425 f nh
def N1 (x : Int32) : Prop := x = -1 ∨ ∃ v, v ≤ 2000 ∧ x = nI v
/-- the counts of a world -/
def CT (f : Nat → Int32) (np nm nc nt ns nh : Nat) : Prop := (f 4 = nI np ∧ np ≤ 60) ∧ (f 5825 = nI nm ∧ nm ≤ 20) ∧ (f 6606 = nI nc ∧ nc ≤ 16) ∧ (f 12825 = nI nt ∧ nt ≤ 10) ∧ (f 10223 = nI ns ∧ ns ≤ 200) ∧ (f 11424 = nI nh ∧ nh ≤ 200)
/-- a card as it should be -/
def CaI (f : Nat → Int32) (c np : Nat) : Prop := (∃ v, v ≤ 2000 ∧ f (6607 + 26 * c + 1) = nI v) ∧ N1 (f (6607 + 26 * c + 2)) ∧ (∀ t, t < 3 → N1 (f (6607 + 26 * c + (3 + t)))) ∧ (∀ j, j < 10 → (f (6607 + 26 * c + (6 + j)) = -1 ∨ ∃ p, p < np ∧ f (6607 + 26 * c + (6 + j)) = nI p) ∧ (f (6607 + 26 * c + (16 + j)) = -1 ∨ ∃ v, v < 8 ∧ f (6607 + 26 * c + (16 + j)) = nI v)) ∧ cn (fun j => decide (0 ≤ f (6607 + 26 * c + (16 + j)))) 10 ≤ 4
/-- a saying as it should be -/
def SaI (f : Nat → Int32) (r nm nc : Nat) : Prop := (∃ e, e < 6 ∧ f (10224 + 6 * r) = nI e) ∧ (∃ k, k < nm ∧ f (10224 + 6 * r + 1) = nI k) ∧ (∃ c, c < nc ∧ f (10224 + 6 * r + 2) = nI c) ∧ (∃ j, j < 10 ∧ f (10224 + 6 * r + 3) = nI j) ∧ (∃ v, v < 3 ∧ f (10224 + 6 * r + 4) = nI v) ∧ ∃ v, v ≤ 2000 ∧ f (10224 + 6 * r + 5) = nI v
/-- what always holds of a world -/
def IV (f : Nat → Int32) (np nm nc nt ns nh : Nat) : Prop :=
  CT f np nm nc nt ns nh ∧ ((∃ v, v ≤ 2000 ∧ f 0 = nI v) ∧ ∃ v, v ≤ 60 ∧ f 2 = nI v) ∧ WP f
  ∧ ((∀ p, p < np → CeR f p) ∧ ∀ p, np ≤ p → p < 60 → f (5 + 97 * p + 64) = 0)
  ∧ ((∀ k, k < nm → (∃ v, v ≤ 2000 ∧ f (5826 + 39 * k) = nI v) ∧ ∃ b, f (5826 + 39 * k + 5) = bI b) ∧ ∀ k, nm ≤ k → k < 20 → f (5826 + 39 * k + 6) = 0)
  ∧ ((∀ c, c < nc → CaI f c np) ∧ ∀ k c j, k < 20 → nc ≤ c → c < 16 → j < 10 → f (7023 + 10 * (16 * k + c) + j) = 0)
  ∧ (∀ t, t < nt → ∃ v, v ≤ 2000 ∧ f (12826 + 850 * t) = nI v) ∧ ∀ r, r < ns → SaI f r nm nc
section REL
variable {F A : Nat → Nat → Int32} {f : Nat → Int32} {np nm nc nt ns nh : Nat}
theorem RS.pr (h : RS F A f 6 np nm nc nt ns nh) {p : Nat} (hp : p < np) : RsP F A f (21 + 7 * p) p := h.2.1 p hp
theorem RS.ma (h : RS F A f 6 np nm nc nt ns nh) {k : Nat} (hk : k < nm) : RsM F A f (441 + 6 * k) k := h.2.2.1 k hk
theorem RS.ca (h : RS F A f 6 np nm nc nt ns nh) {c : Nat} (hc : c < nc) : RsC F A f (561 + 5 * c) c := h.2.2.2.1 c hc
theorem RS.tx (h : RS F A f 6 np nm nc nt ns nh) {t : Nat} (ht : t < nt) : ∃ r, TxS F A (641 + 6 * t) f t r := h.2.2.2.2.1 t ht
theorem RS.sa (h : RS F A f 6 np nm nc nt ns nh) : RsTab F A 17 6 10224 f ns := h.2.2.2.2.2.2.1
theorem RS.hi (h : RS F A f 6 np nm nc nt ns nh) : RsTab F A 19 7 11425 f nh := h.2.2.2.2.2.2.2
theorem RS.no (h : RS F A f 6 np nm nc nt ns nh) : F 11 1 = 0 := h.2.2.2.2.2.1
theorem IV.ct (h : IV f np nm nc nt ns nh) : CT f np nm nc nt ns nh := h.1
theorem IV.p60 (h : IV f np nm nc nt ns nh) : np ≤ 60 := h.1.1.2
theorem IV.m20 (h : IV f np nm nc nt ns nh) : nm ≤ 20 := h.1.2.1.2
theorem IV.c16 (h : IV f np nm nc nt ns nh) : nc ≤ 16 := h.1.2.2.1.2
theorem IV.t10 (h : IV f np nm nc nt ns nh) : nt ≤ 10 := h.1.2.2.2.1.2
theorem IV.s200 (h : IV f np nm nc nt ns nh) : ns ≤ 200 := h.1.2.2.2.2.1.2
theorem IV.h200 (h : IV f np nm nc nt ns nh) : nh ≤ 200 := h.1.2.2.2.2.2.2
theorem IV.wp (h : IV f np nm nc nt ns nh) : WP f := h.2.2.1
theorem IV.ce (h : IV f np nm nc nt ns nh) {p : Nat} (hp : p < np) : CeR f p := h.2.2.2.1.1 p hp
theorem IV.ca (h : IV f np nm nc nt ns nh) {c : Nat} (hc : c < nc) : CaI f c np := h.2.2.2.2.2.1.1 c hc
theorem IV.ma (h : IV f np nm nc nt ns nh) {k : Nat} (hk : k < nm) : (∃ v, v ≤ 2000 ∧ f (5826 + 39 * k) = nI v) ∧ ∃ b, f (5826 + 39 * k + 5) = bI b := h.2.2.2.2.1.1 k hk
theorem IV.sa (h : IV f np nm nc nt ns nh) {r : Nat} (hr : r < ns) : SaI f r nm nc := h.2.2.2.2.2.2.2 r hr
theorem IV.tx (h : IV f np nm nc nt ns nh) {t : Nat} (ht : t < nt) : ∃ v, v ≤ 2000 ∧ f (12826 + 850 * t) = nI v := h.2.2.2.2.2.2.1 t ht
theorem TxS.ok {q t r : Nat} (h : TxS F A q f t r) : okT f t := by
  obtain ⟨r12, _, h1, _, _, N, hN, hR, _⟩ := h
  refine ⟨r, r12, h1, fun k hk => ?_⟩
  obtain ⟨_, _, s, e, hse, heN, es, ee, hok⟩ := hR k hk
  exact ⟨s, e, es, ee, hse, by omega, hok⟩
theorem RS.wt (h : RS F A f 6 np nm nc nt ns nh) (hI : IV f np nm nc nt ns nh) : WT f nt := ⟨hI.1.2.2.2.1.1, hI.t10, fun t ht => by
  obtain ⟨r, hr⟩ := h.tx ht
  exact hr.ok⟩
theorem N1.neg {x : Int32} (h : N1 x) : x = -1 ↔ x < 0 := by
  rcases h with rfl | ⟨v, hv, rfl⟩
  · exact ⟨fun _ => by decide, fun _ => rfl⟩
  · exact ⟨fun h => absurd h (nI_m1 (by omega)), fun h => absurd h (nI_pos (by omega))⟩
theorem FN.neg {x : Int32} {n : Nat} (hn : n ≤ 2000) (h : x = -1 ∨ ∃ p, p < n ∧ x = nI p) : x = -1 ↔ x < 0 := by
  rcases h with rfl | ⟨v, hv, rfl⟩
  · exact ⟨fun _ => by decide, fun _ => rfl⟩
  · exact ⟨fun h => absurd h (nI_m1 (by omega)), fun h => absurd h (nI_pos (by omega))⟩
theorem IV.wf (h : IV f np nm nc nt ns nh) : WF1 f nc := ⟨h.1.2.2.1.1, h.c16, fun c hc j hj => by
  have hp := h.p60
  rcases ((h.ca hc).2.2.2.1 j hj).1 with e | ⟨p, hp2, e⟩
  · exact Or.inl (by rw [e]; decide)
  · exact Or.inr ⟨p, by omega, e⟩⟩
/-- the objects that a State has stay as they were -/
theorem RS.keep {F' A' : Nat → Nat → Int32} (h : RS F A f 6 np nm nc nt ns nh) (hI : IV f np nm nc nt ns nh) (hk : ∀ q, 6 ≤ q → q < 701 → F' q = F q ∧ A' q = A q) : RS F' A' f 6 np nm nc nt ns nh := by
  have hF : ∀ q, 6 ≤ q → q < 701 → F' q = F q := fun q h1 h2 => (hk q h1 h2).1
  have hA : ∀ q, 6 ≤ q → q < 701 → A' q = A q := fun q h1 h2 => (hk q h1 h2).2
  have h60 := hI.p60; have h20 := hI.m20; have h16 := hI.c16; have h10 := hI.t10
  obtain ⟨h0, hp, hm, hc, ht, hno, hs, hh⟩ := h
  refine ⟨by rw [hF 6 (by omega) (by omega)]; exact h0, fun p hp1 => ?_, fun k hk1 => ?_, fun c hc1 => ?_, fun t ht1 => ?_, by rw [hF _ (by omega) (by omega)]; exact hno, ?_, ?_⟩
  · have := hp p hp1
    unfold RsP CeA FoP LoD at this ⊢
    rw [hF (6 + 15 + 7 * p) (by omega) (by omega), hF (6 + 15 + 7 * p + 2) (by omega) (by omega), hA (6 + 15 + 7 * p + 1) (by omega) (by omega), hA (6 + 15 + 7 * p + 2 + 1) (by omega) (by omega), hA (6 + 15 + 7 * p + 2 + 2) (by omega) (by omega), hA (6 + 15 + 7 * p + 2 + 3) (by omega) (by omega), hA (6 + 15 + 7 * p + 2 + 4) (by omega) (by omega)]
    exact this
  · have := hm k hk1
    unfold RsM LoD at this ⊢
    rw [hF (6 + 435 + 6 * k) (by omega) (by omega), hF (6 + 435 + 6 * k + 1) (by omega) (by omega), hA (6 + 435 + 6 * k + 1 + 1) (by omega) (by omega), hA (6 + 435 + 6 * k + 1 + 2) (by omega) (by omega), hA (6 + 435 + 6 * k + 1 + 3) (by omega) (by omega), hA (6 + 435 + 6 * k + 1 + 4) (by omega) (by omega)]
    exact this
  · have := hc c hc1
    unfold RsC at this ⊢
    rw [hF (6 + 555 + 5 * c) (by omega) (by omega), hA (6 + 555 + 5 * c + 1) (by omega) (by omega), hA (6 + 555 + 5 * c + 2) (by omega) (by omega), hA (6 + 555 + 5 * c + 3) (by omega) (by omega), hA (6 + 555 + 5 * c + 4) (by omega) (by omega)]
    exact this
  · obtain ⟨r, this⟩ := ht t ht1
    refine ⟨r, ?_⟩
    unfold TxS at this ⊢
    rw [hF (6 + 635 + 6 * t) (by omega) (by omega), hA (6 + 635 + 6 * t + 1) (by omega) (by omega), hA (6 + 635 + 6 * t + 2) (by omega) (by omega), hA (6 + 635 + 6 * t + 3) (by omega) (by omega), hA (6 + 635 + 6 * t + 4) (by omega) (by omega), hA (6 + 635 + 6 * t + 5) (by omega) (by omega)]
    exact this
  · unfold RsTab at hs ⊢
    rw [hF _ (by omega) (by omega), hA _ (by omega) (by omega)]
    exact hs
  · unfold RsTab at hh ⊢
    rw [hF _ (by omega) (by omega), hA _ (by omega) (by omega)]
    exact hh
end REL
