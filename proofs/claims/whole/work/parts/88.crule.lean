/-! texts of the class: first and last rules; cw_ -/
/-- the text object at q is f's text o; none is the empty one -/
def TxO (F A : Nat → Nat → Int32) (q : Nat) (f : Nat → Int32) : Option Nat → Prop
  | none => F q 1 = 0
  | some t => ∃ r, TxS F A q f t r
/-- the deciding rule -/
def whyV (f : Nat → Int32) (o : Option Nat) (tg : Nat → Bool) (fc : Nat → Int32) : Int32 := if 0 ≤ firstF f o 0 tg fc then firstF f o 0 tg fc else firstF f o 1 tg fc
theorem firstF_rng {f : Nat → Int32} {t : Nat} {so : Int32} {tg : Nat → Bool} {fc : Nat → Int32} : firstF f (some t) so tg fc = -1 ∨ ∃ k, k < rulC f t ∧ firstF f (some t) so tg fc = nI k ∧ f (rl t k) = so := by
  show it (rulC f t) (fun k (_ : Unit) => if f (rl t k) = so ∧ holdR f t k tg fc = true then .inr (nI k) else .inl ()) (fun _ => -1) 0 () = -1 ∨ _
  refine it_inv (I := fun _ => True) (R := fun x => x = -1 ∨ ∃ k, k < rulC f t ∧ x = nI k ∧ f (rl t k) = so) ?_ ?_ ?_ 0 (Nat.zero_le _) () trivial
  · intros; trivial
  · intro c s r hc _ hs
    split at hs
    · rename_i h1
      cases hs
      exact Or.inr ⟨c, hc, rfl, h1.1⟩
    · cases hs
  · intro s _; exact Or.inl rfl
section CALLS
variable {g : aG} {d : Nat} {w : aW} {F A : Nat → Nat → Int32} {L : Nat → Int64} {f : Nat → Int32} {tg : Nat → Bool} {fc : Nat → Int32}
theorem TxS.rul {q t r : Nat} (h : TxS F A q f t r) : rulC f t = r := by
  unfold rulC
  rw [h.2.2.1, nI_clamp (by have := h.1; omega)]
theorem c_firstHolding {q : Nat} {o : Option Nat} {so : Int32} (hq : TeAt q) (hT : TxO F A q f o) (hF : o = none ∨ FcC F L tg fc) (hn : w.1 = N0) : Ev g (d + 3) 52 [.ref q, .int so, .ref 1405] (cW w F A L) (RetQ (firstF f o so tg fc) (cW w F A L)) noX := by
  cases o with
  | none =>
    refine ev_X5_firstHolding ?_ (Nat.le_of_ble_eq_true rfl)
    refine x_lo (lo' := [some (.ref q), some (.int so), some (.ref 1405), none]) rfl ?_
    refine x_c rfl ?_
    refine x_is (lo' := [_, _, _, _]) rfl (Nat.le_of_ble_eq_true rfl) rfl ?_
    refine x_il rfl rfl ?_
    refine x_al rfl rfl ?_
    refine x_getC rfl hn (by with_reducible exact te_0 (by first | assumption | exact teA (by omega) | exact teN | exact teD | exact teB (by assumption) (by omega))) (by exact rfl) ?_
    rw [show F q 1 = 0 from hT]
    refine x_icge rfl (fun e9 => ?_) (fun e9 => absurd (by decide) e9)
    refine x_c rfl ?_
    refine x_reti rfl (Nat.le_of_ble_eq_true rfl) (Nat.le_of_ble_eq_true rfl) rfl ?_
    exact ⟨rfl, rfl⟩
  | some t =>
    obtain ⟨r, hT⟩ := hT
    have hF := hF.resolve_left (by intro h; cases h)
    have hrul := hT.rul
    show Ev g (d + 3) 52 [.ref q, .int so, .ref 1405] (cW w F A L) (RetQ (it (rulC f t) (fun k (_ : Unit) => if f (rl t k) = so ∧ holdR f t k tg fc = true then .inr (nI k) else .inl ()) (fun _ => -1) 0 ()) (cW w F A L)) noX
    rw [hrul]
    have r12 := hT.1
    have loop : ∀ k, k ≤ r → EX g mbOf (Ev g (d + 2)) (infoOf 52) k_X5_firstHolding (RetQ (it r (fun k (_ : Unit) => if f (rl t k) = so ∧ holdR f t k tg fc = true then .inr (nI k) else .inl ()) (fun _ => -1) k ()) (cW w F A L)) noX w.1 (cW w F A L) 0 0 2 [some (.ref q), some (.int so), some (.ref 1405), some (.int (nI k))] [] := by
      refine downN r fun k hk ih => ?_
      refine x_il rfl rfl ?_
      refine x_al rfl rfl ?_
      refine x_getC rfl hn (by with_reducible exact te_0 (by first | assumption | exact teA (by omega) | exact teN | exact teD | exact teB (by assumption) (by omega))) (by exact rfl) ?_
      rw [hT.2.1]
      refine x_icgeN rfl (by omega) (fun c => ?_) (fun c => ?_)
      · refine x_c rfl ?_
        refine x_reti rfl (Nat.le_of_ble_eq_true rfl) (Nat.le_of_ble_eq_true rfl) rfl ?_
        exact ⟨by rw [it_end c], rfl⟩
      refine x_al rfl rfl ?_
      refine x_getC rfl hn (by with_reducible exact te_0 (by first | assumption | exact teA (by omega) | exact teN | exact teD | exact teB (by assumption) (by omega))) (by exact rfl) ?_
      refine x_il rfl rfl ?_
      refine x_iaC rfl hn (by with_reducible exact te_1 (by first | assumption | exact teA (by omega) | exact teN | exact teD | exact teB (by assumption) (by omega))) (by omega) ?_
      refine x_il rfl rfl ?_
      obtain ⟨a1, a2, a3, a4⟩ := hT.2.2.2.2.1 k c
      rw [a1]
      refine x_icne rfl (fun c2 => ?_) (fun c2 => ?_)
      · refine x_inc1 (lo' := [_, _, _, _]) rfl rfl rfl ?_
        refine x_go rfl ?_
        have ih := ih c
        rw [← it_go c (if_neg (fun h => c2 h.1))] at ih
        exact ih
      refine x_al rfl rfl ?_
      refine x_il rfl rfl ?_
      refine x_al rfl rfl ?_
      refine x_call3 (c_holds hq hT c hF hn) rfl (Nat.le_of_ble_eq_true rfl) (Or.inl (by first | exact hn | assumption)) (rcv_at (cw_fs (by with_reducible exact te_0 (by first | assumption | exact teA (by omega) | exact teN | exact teD | exact teB (by assumption) (by omega))) hn) (by decide) (by decide)) (Nat.le_of_ble_eq_true rfl) (Nat.le_of_ble_eq_true rfl) (fun E w9 hq => hq.elim) ?_
      rintro v9 w9 ⟨rfl, rfl⟩
      cases hb : holdR f t k tg fc with
      | false =>
        refine x_ifeq rfl (fun e9 => ?_) (fun e9 => absurd rfl e9)
        refine x_inc1 (lo' := [_, _, _, _]) rfl rfl rfl ?_
        refine x_go rfl ?_
        have ih := ih c
        rw [← it_go c (if_neg (fun h => by rw [hb] at h; exact absurd h.2 (by decide)))] at ih
        exact ih
      | true =>
        refine x_ifeq rfl (fun e9 => absurd e9 (show ¬ (1 : Int32) = 0 by decide)) (fun e9 => ?_)
        refine x_il rfl rfl ?_
        refine x_reti rfl (Nat.le_of_ble_eq_true rfl) (Nat.le_of_ble_eq_true rfl) rfl ?_
        exact ⟨by rw [it_ret c (if_pos ⟨c2, hb⟩)], rfl⟩
    refine ev_X5_firstHolding ?_ (Nat.le_of_ble_eq_true rfl)
    refine x_lo (lo' := [some (.ref q), some (.int so), some (.ref 1405), none]) rfl ?_
    refine x_c rfl ?_
    refine x_is (lo' := [_, _, _, _]) rfl (Nat.le_of_ble_eq_true rfl) rfl ?_
    exact loop 0 (Nat.zero_le _)
theorem firstF_o {o : Option Nat} {so : Int32} : firstF f o so tg fc = -1 ∨ 0 ≤ firstF f o so tg fc := by
  cases o with
  | none => exact Or.inl rfl
  | some t =>
    rcases firstF_rng (f := f) (t := t) (so := so) (tg := tg) (fc := fc) with h | ⟨k, hk2, h, _⟩
    · exact Or.inl h
    have hk : k < 2 ^ 31 := Nat.lt_trans hk2 (Int32.toNatClampNeg_lt _)
    · exact Or.inr (by rw [h]; exact (nI_leI (a := 0) (by omega) hk).mpr (Nat.zero_le _))
theorem c_decidingRuleT {q : Nat} {o : Option Nat} (hq : TeAt q) (hT : TxO F A q f o) (hF : o = none ∨ FcC F L tg fc) (hn : w.1 = N0) : Ev g (d + 4) 53 [.ref q, .ref 1405] (cW w F A L) (RetQ (whyV f o tg fc) (cW w F A L)) noX := by
  unfold whyV
  refine ev_X5_decidingRule ?_ (Nat.le_of_ble_eq_true rfl)
  refine x_lo (lo' := [some (.ref q), some (.ref 1405), none]) rfl ?_
  refine x_al rfl rfl ?_
  refine x_c rfl ?_
  refine x_al rfl rfl ?_
  refine x_call3 (c_firstHolding hq hT hF hn) rfl (Nat.le_of_ble_eq_true rfl) (Or.inl (by first | exact hn | assumption)) (rcv_at (cw_fs (by with_reducible exact te_0 (by first | assumption | exact teA (by omega) | exact teN | exact teD | exact teB (by assumption) (by omega))) hn) (by decide) (by decide)) (Nat.le_of_ble_eq_true rfl) (Nat.le_of_ble_eq_true rfl) (fun E w9 hq => hq.elim) ?_
  rintro v9 w9 ⟨rfl, rfl⟩
  refine x_is (lo' := [_, _, _]) rfl (Nat.le_of_ble_eq_true rfl) rfl ?_
  refine x_il rfl rfl ?_
  refine x_c rfl ?_
  refine x_iceq rfl (fun c1 => ?_) (fun c1 => ?_)
  · refine x_al rfl rfl ?_
    refine x_c rfl ?_
    refine x_al rfl rfl ?_
    rw [if_neg (by rw [c1]; decide)]
    refine x_call3 (c_firstHolding hq hT hF hn) rfl (Nat.le_of_ble_eq_true rfl) (Or.inl (by first | exact hn | assumption)) (rcv_at (cw_fs (by with_reducible exact te_0 (by first | assumption | exact teA (by omega) | exact teN | exact teD | exact teB (by assumption) (by omega))) hn) (by decide) (by decide)) (Nat.le_of_ble_eq_true rfl) (Nat.le_of_ble_eq_true rfl) (fun E w9 hq => hq.elim) ?_
    rintro v9 w9 ⟨rfl, rfl⟩
    refine x_reti rfl (Nat.le_of_ble_eq_true rfl) (Nat.le_of_ble_eq_true rfl) rfl ?_
    exact ⟨rfl, rfl⟩
  refine x_il rfl rfl ?_
  refine x_go rfl ?_
  refine x_reti rfl (Nat.le_of_ble_eq_true rfl) (Nat.le_of_ble_eq_true rfl) rfl ?_
  rcases firstF_o (f := f) (o := o) (so := 0) (tg := tg) (fc := fc) with h | h
  · exact absurd h c1
  · exact ⟨by rw [if_pos h], rfl⟩
theorem c_verdictBy {q : Nat} {o : Option Nat} (hq : TeAt q) (hT : TxO F A q f o) (hn : w.1 = N0) : Ev g (d + 1) 54 [.ref q, .int (whyV f o tg fc)] (cW w F A L) (RetQ (judF f o tg fc) (cW w F A L)) noX := by
  have none_ : ∀ x : Int32, x = -1 → Ev g (d + 1) 54 [.ref q, .int x] (cW w F A L) (RetQ 0 (cW w F A L)) noX := by
    intro x hx
    refine ev_X5_verdictBy ?_ (Nat.le_of_ble_eq_true rfl)
    refine x_lo (lo' := [some (.ref q), some (.int x)]) rfl ?_
    refine x_il rfl rfl ?_
    refine x_iflt rfl (fun e9 => ?_) (fun e9 => absurd (by rw [hx]; decide) e9)
    refine x_c rfl ?_
    refine x_reti rfl (Nat.le_of_ble_eq_true rfl) (Nat.le_of_ble_eq_true rfl) rfl ?_
    exact ⟨rfl, rfl⟩
  unfold whyV judF
  cases o with
  | none => exact none_ _ rfl
  | some t =>
    obtain ⟨r, hT⟩ := hT
    have hrul := hT.rul
    have r12 := hT.1
    have some_ : ∀ k, k < r → ∀ (v : Int32), v = (if f (rl t k) = 0 then 2 else 1) → Ev g (d + 1) 54 [.ref q, .int (nI k)] (cW w F A L) (RetQ v (cW w F A L)) noX := by
      intro k hk v hv
      obtain ⟨a1, a2, a3, a4⟩ := hT.2.2.2.2.1 k hk
      subst hv
      refine ev_X5_verdictBy ?_ (Nat.le_of_ble_eq_true rfl)
      refine x_lo (lo' := [some (.ref q), some (.int (nI k))]) rfl ?_
      refine x_il rfl rfl ?_
      refine x_iflt rfl (fun e9 => absurd e9 (nI_pos (by omega))) (fun e9 => ?_)
      refine x_il rfl rfl ?_
      refine x_al rfl rfl ?_
      refine x_getC rfl hn (by with_reducible exact te_0 (by first | assumption | exact teA (by omega) | exact teN | exact teD | exact teB (by assumption) (by omega))) (by exact rfl) ?_
      rw [hT.2.1]
      refine x_icltN rfl (by omega) (fun e9 => ?_) (fun e9 => absurd e9 (by omega))
      refine x_al rfl rfl ?_
      refine x_getC rfl hn (by with_reducible exact te_0 (by first | assumption | exact teA (by omega) | exact teN | exact teD | exact teB (by assumption) (by omega))) (by exact rfl) ?_
      refine x_il rfl rfl ?_
      refine x_iaC rfl hn (by with_reducible exact te_1 (by first | assumption | exact teA (by omega) | exact teN | exact teD | exact teB (by assumption) (by omega))) (by omega) ?_
      rw [a1]
      refine x_ifne rfl (fun c1 => ?_) (fun c1 => ?_)
      · refine x_c rfl ?_
        refine x_reti rfl (Nat.le_of_ble_eq_true rfl) (Nat.le_of_ble_eq_true rfl) rfl ?_
        exact ⟨by rw [if_neg c1], rfl⟩
      refine x_c rfl ?_
      refine x_go rfl ?_
      refine x_reti rfl (Nat.le_of_ble_eq_true rfl) (Nat.le_of_ble_eq_true rfl) rfl ?_
      exact ⟨by rw [if_pos c1], rfl⟩
    rcases firstF_rng (f := f) (t := t) (so := 0) (tg := tg) (fc := fc) with h | ⟨k, hk, h, h2⟩
    · rw [h, if_neg (by decide), if_neg (by decide)]
      rcases firstF_rng (f := f) (t := t) (so := 1) (tg := tg) (fc := fc) with h | ⟨k, hk, h, h2⟩
      · rw [h, if_neg (by decide)]
        exact none_ _ rfl
      · rw [hrul] at hk
        rw [h, if_pos (show (0 : Int32) ≤ nI k from (nI_leI (a := 0) (by omega) (by omega)).mpr (Nat.zero_le _))]
        exact some_ k hk _ (by rw [h2]; rfl)
    · rw [hrul] at hk
      have h0 : 0 ≤ nI k := (nI_leI (a := 0) (by omega) (by omega)).mpr (Nat.zero_le _)
      rw [h, if_pos h0, if_pos h0]
      exact some_ k hk _ (by rw [h2]; rfl)
theorem c_lastNumber {q : Nat} {o : Option Nat} {so wo : Int32} (hq : TeAt q) (hT : TxO F A q f o) (hn : w.1 = N0) : Ev g (d + 1) 55 [.ref q, .int so, .int wo] (cW w F A L) (RetQ (lastF f o so wo) (cW w F A L)) noX := by
  cases o with
  | none =>
    refine ev_X5_lastNumber ?_ (Nat.le_of_ble_eq_true rfl)
    refine x_lo (lo' := [some (.ref q), some (.int so), some (.int wo), none]) rfl ?_
    refine x_al rfl rfl ?_
    refine x_getC rfl hn (by with_reducible exact te_0 (by first | assumption | exact teA (by omega) | exact teN | exact teD | exact teB (by assumption) (by omega))) (by exact rfl) ?_
    rw [show F q 1 = 0 from hT]
    refine x_c rfl ?_
    refine x_sub rfl ?_
    refine x_is (lo' := [_, _, _, _]) rfl (Nat.le_of_ble_eq_true rfl) rfl ?_
    refine x_il rfl rfl ?_
    refine x_iflt rfl (fun e9 => ?_) (fun e9 => absurd (by decide) e9)
    refine x_il rfl rfl ?_
    refine x_reti rfl (Nat.le_of_ble_eq_true rfl) (Nat.le_of_ble_eq_true rfl) rfl ?_
    exact ⟨rfl, rfl⟩
  | some t =>
    obtain ⟨r, hT⟩ := hT
    rw [lastF_s, hT.rul]
    have r12 := hT.1
    have loop : ∀ k, k ≤ r → EX g mbOf (Ev g (d)) (infoOf 55) k_X5_lastNumber (RetQ (acc (fun k v => if f (rl t k) = so then f (rl t k + 1) else v) wo k) (cW w F A L)) noX w.1 (cW w F A L) 0 0 5 [some (.ref q), some (.int so), some (.int wo), some (.int (nI k - 1))] [] := by
      intro k
      induction k with
      | zero =>
        intro _
        refine x_il rfl rfl ?_
        refine x_iflt rfl (fun e9 => ?_) (fun e9 => absurd (by decide) e9)
        refine x_il rfl rfl ?_
        refine x_reti rfl (Nat.le_of_ble_eq_true rfl) (Nat.le_of_ble_eq_true rfl) rfl ?_
        exact ⟨rfl, rfl⟩
      | succ k ih =>
        intro hk
        obtain ⟨a1, a2, a3, a4⟩ := hT.2.2.2.2.1 k (by omega)
        rw [show nI (k + 1) - 1 = nI k from nI_pred k]
        refine x_il rfl rfl ?_
        refine x_iflt rfl (fun e9 => absurd e9 (nI_pos (by omega))) (fun e9 => ?_)
        refine x_al rfl rfl ?_
        refine x_getC rfl hn (by with_reducible exact te_0 (by first | assumption | exact teA (by omega) | exact teN | exact teD | exact teB (by assumption) (by omega))) (by exact rfl) ?_
        refine x_il rfl rfl ?_
        refine x_iaC rfl hn (by with_reducible exact te_1 (by first | assumption | exact teA (by omega) | exact teN | exact teD | exact teB (by assumption) (by omega))) (by omega) ?_
        refine x_il rfl rfl ?_
        rw [a1, acc_s]
        refine x_icne rfl (fun c1 => ?_) (fun c1 => ?_)
        · refine x_inc (lo' := [_, _, _, _]) rfl rfl rfl ?_
          refine x_go rfl ?_
          rw [if_neg c1, show nI k + -1 = nI k - 1 from (Int32.sub_eq_add_neg (nI k) 1).symm]
          exact ih (by omega)
        refine x_al rfl rfl ?_
        refine x_getC rfl hn (by with_reducible exact te_0 (by first | assumption | exact teA (by omega) | exact teN | exact teD | exact teB (by assumption) (by omega))) (by exact rfl) ?_
        refine x_il rfl rfl ?_
        refine x_iaC rfl hn (by with_reducible exact te_2 (by first | assumption | exact teA (by omega) | exact teN | exact teD | exact teB (by assumption) (by omega))) (by omega) ?_
        refine x_reti rfl (Nat.le_of_ble_eq_true rfl) (Nat.le_of_ble_eq_true rfl) rfl ?_
        rw [a2, if_pos c1]
        exact ⟨rfl, rfl⟩
    refine ev_X5_lastNumber ?_ (Nat.le_of_ble_eq_true rfl)
    refine x_lo (lo' := [some (.ref q), some (.int so), some (.int wo), none]) rfl ?_
    refine x_al rfl rfl ?_
    refine x_getC rfl hn (by with_reducible exact te_0 (by first | assumption | exact teA (by omega) | exact teN | exact teD | exact teB (by assumption) (by omega))) (by exact rfl) ?_
    rw [hT.2.1]
    refine x_c rfl ?_
    refine x_sub rfl ?_
    refine x_is (lo' := [_, _, _, _]) rfl (Nat.le_of_ble_eq_true rfl) rfl ?_
    exact loop r (Nat.le_refl _)
theorem lastF_kp {q t r : Nat} (h : TxS F A q f t r) : ∀ k, k ≤ r → (acc (fun k v => if f (rl t k) = 4 then f (rl t k + 1) else v) (-1) k = -1 ↔ cn (fun k => f (rl t k) == 4) k = 0) := by
  intro k
  induction k with
  | zero => intro _; exact ⟨fun _ => rfl, fun _ => rfl⟩
  | succ k ih =>
    intro hk
    obtain ⟨N, hN, hR, _⟩ := h.2.2.2.2.2
    obtain ⟨_, ⟨v, hv, ev, _⟩, _⟩ := hR k (by omega)
    rw [acc_s]
    by_cases e : f (rl t k) = 4
    · rw [if_pos e, ev, cn_t (by simpa using e)]
      exact ⟨fun h => absurd h (nI_m1 (by omega)), fun h => absurd h (by omega)⟩
    · rw [if_neg e, cn_f (by simpa using e)]
      exact ih (by omega)
theorem c_hasKind {q : Nat} {o : Option Nat} (hq : TeAt q) (hT : TxO F A q f o) (hn : w.1 = N0) : Ev g (d + 2) 56 [.ref q, .int 4] (cW w F A L) (RetQ (bI (keepsB f o)) (cW w F A L)) noX := by
  refine ev_X5_hasKind ?_ (Nat.le_of_ble_eq_true rfl)
  refine x_lo (lo' := [some (.ref q), some (.int 4)]) rfl ?_
  refine x_al rfl rfl ?_
  refine x_il rfl rfl ?_
  refine x_c rfl ?_
  refine x_call3 (c_lastNumber hq hT hn) rfl (Nat.le_of_ble_eq_true rfl) (Or.inl (by first | exact hn | assumption)) (rcv_at (cw_fs (by with_reducible exact te_0 (by first | assumption | exact teA (by omega) | exact teN | exact teD | exact teB (by assumption) (by omega))) hn) (by decide) (by decide)) (Nat.le_of_ble_eq_true rfl) (Nat.le_of_ble_eq_true rfl) (fun E w9 hq => hq.elim) ?_
  rintro v9 w9 ⟨rfl, rfl⟩
  refine x_c rfl ?_
  have hk : lastF f o 4 (-1) = -1 ↔ keepsB f o = false := by
    cases o with
    | none => exact ⟨fun _ => rfl, fun _ => rfl⟩
    | some t =>
      obtain ⟨r, hT⟩ := hT
      rw [lastF_s, hT.rul, lastF_kp hT r (Nat.le_refl _)]
      show _ ↔ decide (¬ cn (fun k => f (rl t k) == 4) (rulC f t) = 0) = false
      rw [hT.rul, decide_eq_false_iff_not]
      exact ⟨fun h h2 => h2 h, fun h => Classical.byContradiction h⟩
  refine x_iceq rfl (fun c1 => ?_) (fun c1 => ?_)
  · refine x_c rfl ?_
    refine x_retz rfl (Nat.le_of_ble_eq_true rfl) (Nat.le_of_ble_eq_true rfl) rfl (by first | rfl | assumption) ?_
    exact ⟨by rw [hk.mp c1]; rfl, rfl⟩
  refine x_c rfl ?_
  refine x_go rfl ?_
  refine x_retz rfl (Nat.le_of_ble_eq_true rfl) (Nat.le_of_ble_eq_true rfl) rfl (by first | rfl | assumption) ?_
  refine ⟨?_, rfl⟩
  cases hb : keepsB f o with
  | true => rfl
  | false => exact absurd (hk.mpr hb) c1
theorem c_keptBy {q : Nat} {o : Option Nat} (hq : TeAt q) (hT : TxO F A q f o) (hF : o = none ∨ FcC F L tg fc) (hn : w.1 = N0) : Ev g (d + 3) 57 [.ref q, .ref 1405] (cW w F A L) (RetQ (keepT f o tg fc) (cW w F A L)) noX := by
  cases o with
  | none =>
    refine ev_X5_keptBy ?_ (Nat.le_of_ble_eq_true rfl)
    refine x_lo (lo' := [some (.ref q), some (.ref 1405), none, none]) rfl ?_
    refine x_c rfl ?_
    refine x_is (lo' := [_, _, _, _]) rfl (Nat.le_of_ble_eq_true rfl) rfl ?_
    refine x_c rfl ?_
    refine x_is (lo' := [_, _, _, _]) rfl (Nat.le_of_ble_eq_true rfl) rfl ?_
    refine x_il rfl rfl ?_
    refine x_al rfl rfl ?_
    refine x_getC rfl hn (by with_reducible exact te_0 (by first | assumption | exact teA (by omega) | exact teN | exact teD | exact teB (by assumption) (by omega))) (by exact rfl) ?_
    rw [show F q 1 = 0 from hT]
    refine x_icge rfl (fun e9 => ?_) (fun e9 => absurd (by decide) e9)
    refine x_il rfl rfl ?_
    refine x_reti rfl (Nat.le_of_ble_eq_true rfl) (Nat.le_of_ble_eq_true rfl) rfl ?_
    exact ⟨rfl, rfl⟩
  | some t =>
    obtain ⟨r, hT⟩ := hT
    have hF := hF.resolve_left (by intro h; cases h)
    rw [keepT_s, hT.rul]
    have r12 := hT.1
    have loop : ∀ k, k ≤ r → EX g mbOf (Ev g (d + 2)) (infoOf 57) k_X5_keptBy (RetQ (acc (fun k v => if f (rl t k) = 4 ∧ holdR f t k tg fc = true then (if f (rl t k + 1) ≤ v then v else f (rl t k + 1)) else v) 0 r) (cW w F A L)) noX w.1 (cW w F A L) 0 0 4 [some (.ref q), some (.ref 1405), some (.int (acc (fun k v => if f (rl t k) = 4 ∧ holdR f t k tg fc = true then (if f (rl t k + 1) ≤ v then v else f (rl t k + 1)) else v) 0 k)), some (.int (nI k))] [] := by
      refine downN r fun k hk ih => ?_
      refine x_il rfl rfl ?_
      refine x_al rfl rfl ?_
      refine x_getC rfl hn (by with_reducible exact te_0 (by first | assumption | exact teA (by omega) | exact teN | exact teD | exact teB (by assumption) (by omega))) (by exact rfl) ?_
      rw [hT.2.1]
      refine x_icgeN rfl (by omega) (fun c => ?_) (fun c => ?_)
      · refine x_il rfl rfl ?_
        refine x_reti rfl (Nat.le_of_ble_eq_true rfl) (Nat.le_of_ble_eq_true rfl) rfl ?_
        obtain rfl : k = r := by omega
        exact ⟨rfl, rfl⟩
      refine x_al rfl rfl ?_
      refine x_getC rfl hn (by with_reducible exact te_0 (by first | assumption | exact teA (by omega) | exact teN | exact teD | exact teB (by assumption) (by omega))) (by exact rfl) ?_
      refine x_il rfl rfl ?_
      refine x_iaC rfl hn (by with_reducible exact te_1 (by first | assumption | exact teA (by omega) | exact teN | exact teD | exact teB (by assumption) (by omega))) (by omega) ?_
      refine x_c rfl ?_
      obtain ⟨a1, a2, a3, a4⟩ := hT.2.2.2.2.1 k c
      have ih := ih c
      rw [acc_s] at ih
      generalize acc (fun k v => if f (rl t k) = 4 ∧ holdR f t k tg fc = true then (if f (rl t k + 1) ≤ v then v else f (rl t k + 1)) else v) 0 k = v at *
      rw [a1]
      refine x_icne rfl (fun c1 => ?_) (fun c1 => ?_)
      · skip
        rw [if_neg (fun h => c1 h.1)] at ih
        refine x_inc1 (lo' := [_, _, _, _]) rfl rfl rfl ?_
        refine x_go rfl ?_
        exact ih
      refine x_al rfl rfl ?_
      refine x_getC rfl hn (by with_reducible exact te_0 (by first | assumption | exact teA (by omega) | exact teN | exact teD | exact teB (by assumption) (by omega))) (by exact rfl) ?_
      refine x_il rfl rfl ?_
      refine x_iaC rfl hn (by with_reducible exact te_2 (by first | assumption | exact teA (by omega) | exact teN | exact teD | exact teB (by assumption) (by omega))) (by omega) ?_
      refine x_il rfl rfl ?_
      rw [a2]
      refine x_icle rfl (fun c2 => ?_) (fun c2 => ?_)
      · skip
        rw [if_pos c2, ite_self] at ih
        refine x_inc1 (lo' := [_, _, _, _]) rfl rfl rfl ?_
        refine x_go rfl ?_
        exact ih
      refine x_al rfl rfl ?_
      refine x_il rfl rfl ?_
      refine x_al rfl rfl ?_
      refine x_call3 (c_holds hq hT c hF hn) rfl (Nat.le_of_ble_eq_true rfl) (Or.inl (by first | exact hn | assumption)) (rcv_at (cw_fs (by with_reducible exact te_0 (by first | assumption | exact teA (by omega) | exact teN | exact teD | exact teB (by assumption) (by omega))) hn) (by decide) (by decide)) (Nat.le_of_ble_eq_true rfl) (Nat.le_of_ble_eq_true rfl) (fun E w9 hq => hq.elim) ?_
      rintro v9 w9 ⟨rfl, rfl⟩
      cases hb : holdR f t k tg fc with
      | false =>
        refine x_ifeq rfl (fun e9 => ?_) (fun e9 => absurd rfl e9)
        rw [if_neg (fun h => by rw [hb] at h; exact absurd h.2 (by decide))] at ih
        refine x_inc1 (lo' := [_, _, _, _]) rfl rfl rfl ?_
        refine x_go rfl ?_
        exact ih
      | true =>
        rw [if_pos ⟨c1, hb⟩, if_neg c2] at ih
        refine x_ifeq rfl (fun e9 => absurd e9 (show ¬ (1 : Int32) = 0 by decide)) (fun e9 => ?_)
        refine x_al rfl rfl ?_
        refine x_getC rfl hn (by with_reducible exact te_0 (by first | assumption | exact teA (by omega) | exact teN | exact teD | exact teB (by assumption) (by omega))) (by exact rfl) ?_
        refine x_il rfl rfl ?_
        refine x_iaC rfl hn (by with_reducible exact te_2 (by first | assumption | exact teA (by omega) | exact teN | exact teD | exact teB (by assumption) (by omega))) (by omega) ?_
        rw [a2]
        refine x_is (lo' := [_, _, _, _]) rfl (Nat.le_of_ble_eq_true rfl) rfl ?_
        refine x_inc1 (lo' := [_, _, _, _]) rfl rfl rfl ?_
        refine x_go rfl ?_
        exact ih
    refine ev_X5_keptBy ?_ (Nat.le_of_ble_eq_true rfl)
    refine x_lo (lo' := [some (.ref q), some (.ref 1405), none, none]) rfl ?_
    refine x_c rfl ?_
    refine x_is (lo' := [_, _, _, _]) rfl (Nat.le_of_ble_eq_true rfl) rfl ?_
    refine x_c rfl ?_
    refine x_is (lo' := [_, _, _, _]) rfl (Nat.le_of_ble_eq_true rfl) rfl ?_
    exact loop 0 (Nat.zero_le _)
end CALLS
