/-! reading of a rule and of a text: mset_ -/
/-- how a rule's reading ends: right or not, where, where its last word began, steps so far -/
abbrev RR : Type := Bool × Nat × Nat × List (Int32 × Int32)
def sortW (t : Nat → Int32) (en p : Nat) : Option Nat := fiW t (wE t en p) (wS t en p) [1, 2, 3, 4, 5, 6] 0
def loS (s : Nat) : Int32 := if s = 4 then 0 else 1
def hiS (s : Nat) : Int32 := if s = 2 then 6 else if s = 3 then 10 else 9999
/-- the condition behind a rule, if there is one; sort s, at p -/
def pIf (t : Nat → Int32) (en p s : Nat) : RR := if wdB t (wE t en p) (wS t en p) 7 = true then (if (pCond t en 6 (wE t en p)).1 = true then pCond t en 6 (wE t en p) else (false, 0, (pCond t en 6 (wE t en p)).2.2.1, [])) else (decide (s = 4), wS t en p, wS t en p, [])
/-- rule n at p -/
def pRule (t : Nat → Int32) (en n p : Nat) : RR := if n = 12 then (false, 0, wS t en p, []) else match sortW t en p with
  | none => (false, 0, wS t en p, [])
  | some s => if 2 ≤ s ∧ s ≤ 4 then (if numR t en (wS t en (wE t en p)) (loS s) (hiS s) < 0 then (false, 0, wS t en (wE t en p), []) else if s = 4 then pIf t en (runs t en 48 57 (wS t en (wE t en p))) s else (true, runs t en 48 57 (wS t en (wE t en p)), wS t en (wE t en p), [])) else pIf t en (wE t en p) s
/-- a rule's number -/
def nrW (t : Nat → Int32) (en p s : Nat) : Int32 := if 2 ≤ s ∧ s ≤ 4 then numR t en (wS t en (wE t en p)) (loS s) (hiS s) else 0
theorem pIf_b {t : Nat → Int32} {en p s : Nat} (hp : p ≤ en) (h : (pIf t en p s).1 = true) : p + (pIf t en p s).2.2.2.length ≤ (pIf t en p s).2.1 ∧ (pIf t en p s).2.1 ≤ en := by
  have a1 := wS_ge (t := t) (en := en) (p := p)
  have a2 := wE_ge (t := t) (en := en) (p := p)
  have a3 := wE_le (t := t) hp
  unfold pIf at h ⊢
  by_cases c1 : wdB t (wE t en p) (wS t en p) 7 = true
  · rw [if_pos c1] at h ⊢
    by_cases c2 : (pCond t en 6 (wE t en p)).1 = true
    · rw [if_pos c2]
      have b := pSeq_b (pSeq_b (pAtom_b t en 6) (k := 18) (op := 301) (by decide)) (k := 19) (op := 302) (by decide) _ a3 c2
      have b1 : wE t en p + (pCond t en 6 (wE t en p)).2.2.2.length ≤ (pCond t en 6 (wE t en p)).2.1 := b.1
      exact ⟨by omega, b.2.2⟩
    · rw [if_neg c2] at h; exact absurd h (by show ¬ false = true; decide)
  · rw [if_neg c1]
    exact ⟨a1, wS_le hp⟩
theorem pRule_b {t : Nat → Int32} {en n p : Nat} (hp : p ≤ en) (h : (pRule t en n p).1 = true) : p + (pRule t en n p).2.2.2.length ≤ (pRule t en n p).2.1 ∧ (pRule t en n p).2.1 ≤ en ∧ n ≠ 12 := by
  have a1 := wS_ge (t := t) (en := en) (p := p)
  have a2 := wE_ge (t := t) (en := en) (p := p)
  have a3 := wE_le (t := t) hp
  have a4 := wS_ge (t := t) (en := en) (p := wE t en p)
  have a5 := wS_le (t := t) a3
  have a6 : wS t en (wE t en p) ≤ runs t en 48 57 (wS t en (wE t en p)) := runs_ge
  have a7 : runs t en 48 57 (wS t en (wE t en p)) ≤ en := runs_le a5
  unfold pRule at h ⊢
  by_cases c0 : n = 12
  · rw [if_pos c0] at h; exact absurd h (by show ¬ false = true; decide)
  rw [if_neg c0] at h ⊢
  match e : sortW t en p with
  | none => rw [e] at h; exact absurd h (by show ¬ false = true; decide)
  | some s =>
    rw [e] at h
    dsimp only at h ⊢
    by_cases c1 : 2 ≤ s ∧ s ≤ 4
    · rw [if_pos c1] at h ⊢
      by_cases c2 : numR t en (wS t en (wE t en p)) (loS s) (hiS s) < 0
      · rw [if_pos c2] at h; exact absurd h (by show ¬ false = true; decide)
      · rw [if_neg c2] at h ⊢
        by_cases c3 : s = 4
        · rw [if_pos c3] at h ⊢
          have := pIf_b a7 h
          omega
        · rw [if_neg c3]
          exact ⟨by show p + 0 ≤ runs t en 48 57 (wS t en (wE t en p)); omega, a7, c0⟩
    · rw [if_neg c1] at h ⊢
      have := pIf_b a3 h
      omega
/-- the row of rule n, four cells -/
def rowW (f : Nat → Int32) (n : Nat) (a b c e : Int32) : Nat → Int32 := upd (upd (upd (upd f (21328 + 4 * n) a) (21328 + 4 * n + 1) b) (21328 + 4 * n + 2) c) (21328 + 4 * n + 3) e
/-- what the reading of rule n leaves -/
def RQ (w : aW) (m f : Nat → Int32) (A : Nat → Nat → Int32) (B : Nat → Nat → Int64) (t : Nat → Int32) (en n p st : Nat) : Option Value → aW → Prop := fun v w' => v = some (.int (bI (pRule t en n p).1)) ∧ ∃ m' f', w' = rW w m' f' A B ∧ m' 8 = nI (pRule t en n p).2.2.1 ∧ (∀ k, k ≠ 6 → k ≠ 8 → k ≠ 9 → k ≠ 23 → m' k = m k) ∧ (∀ i, i < 21328 → f' i = f i) ∧ ((pRule t en n p).1 = true → m' 6 = nI (pRule t en n p).2.1 ∧ m' 23 = nI (st + (pRule t en n p).2.2.2.length) ∧ ∃ s, sortW t en p = some s ∧ (∀ i, i < 21328 + 4 * n → f' i = f i) ∧ f' (21328 + 4 * n) = nI s ∧ f' (21328 + 4 * n + 1) = nrW t en p s ∧ f' (21328 + 4 * n + 2) = nI st ∧ f' (21328 + 4 * n + 3) = nI (st + (pRule t en n p).2.2.2.length) ∧ (∀ i, 21376 ≤ i → f' i = wrL f st (pRule t en n p).2.2.2 i))
section RULE
variable {g : aG} {d : Nat} {w : aW} {m f : Nat → Int32} {A : Nat → Nat → Int32} {B : Nat → Nat → Int64} {pt en : Nat}
theorem wrL_row : ∀ (L : List (Int32 × Int32)) (f f' : Nat → Int32) (st : Nat), (∀ i, 21376 ≤ i → f' i = f i) → ∀ i, 21376 ≤ i → wrL f' st L i = wrL f st L i := by
  intro L
  induction L with
  | nil => intro f f' st h i hi; exact h i hi
  | cons x L ih =>
    intro f f' st h i hi
    refine ih _ _ _ (fun j hj => ?_) i hi
    unfold upd
    split
    · rfl
    · split
      · rfl
      · exact h j hj
theorem n_readRule {t : Nat → Int32} {n p st : Nat} (hT : HTx g) (ht : A 1427 = t) (hTp : Tp m p en) (h23 : m 23 = nI st) (hst : st ≤ p) (hn12 : n ≤ 12) (hn : w.1 = N0) : Ev g (d + 31) 254 [.ref 1424, .int (nI n)] (rW w m f A B) (RQ w m f A B t en n p st) noX := by
  have hen := hTp.2.2.2
  have e1 := wS_ge (t := t) (en := en) (p := p)
  have e2 := wE_ge (t := t) (en := en) (p := p)
  have e3 := wE_le (t := t) hTp.2.2.1
  have e4 := wS_le (t := t) hTp.2.2.1
  refine ev_X11_readRule ?_ (Nat.le_of_ble_eq_true rfl)
  refine x_lo (lo' := [some (.ref 1424), some (.int (nI n)), none, none]) rfl ?_
  refine x_al rfl rfl ?_
  refine x_call1 (n_word hTp hn) rfl (Nat.le_of_ble_eq_true rfl) (Or.inl (by first | exact hn | assumption)) (rcv_at (by first | exact rw_md hn | exact rw_w hn | exact rw_A hn (by exact rfl) | exact rw_B2 hn | exact rw_B3 hn | assumption) (by decide) (by decide)) (Nat.le_of_ble_eq_true rfl) (Nat.le_of_ble_eq_true rfl) (fun E w9 hq => hq.elim) ?_
  rintro v9 w9 ⟨rfl, rfl⟩
  refine x_il rfl rfl ?_
  refine x_c rfl ?_
  rw [ht]
  refine x_icneN (y := 12) rfl (by omega) (fun c0 => ?_) (fun c0 => ?_)
  rotate_left
  · refine x_c rfl ?_
    refine x_retz rfl (Nat.le_of_ble_eq_true rfl) (Nat.le_of_ble_eq_true rfl) rfl (by first | rfl | assumption) ?_
    subst c0
    have hR : pRule t en 12 p = (false, 0, wS t en p, []) := if_pos rfl
    refine ⟨by rw [hR]; rfl, _, f, rfl, by rw [hR]; rfl, tp_k, fun _ _ => rfl, fun h => ?_⟩
    rw [hR] at h
    exact absurd h (by show ¬ false = true; decide)
  refine x_c rfl ?_
  refine x_il rfl rfl ?_
  have hRn : pRule t en n p = match sortW t en p with
    | none => (false, 0, wS t en p, [])
    | some s => if 2 ≤ s ∧ s ≤ 4 then (if numR t en (wS t en (wE t en p)) (loS s) (hiS s) < 0 then (false, 0, wS t en (wE t en p), []) else if s = 4 then pIf t en (runs t en 48 57 (wS t en (wE t en p))) s else (true, runs t en 48 57 (wS t en (wE t en p)), wS t en (wE t en p), [])) else pIf t en (wE t en p) s := if_neg c0
  refine x_call2 (m_ruleAt (t := 10) hn) rfl (Nat.le_of_ble_eq_true rfl) (Or.inl (by first | exact hn | assumption)) trivial (Nat.le_of_ble_eq_true rfl) (Nat.le_of_ble_eq_true rfl) (fun E w9 hq => hq.elim) ?_
  rintro v9 w9 ⟨rfl, rfl⟩
  refine x_is (lo' := [_, _, _, _]) rfl (Nat.le_of_ble_eq_true rfl) rfl ?_
  refine x_al rfl rfl ?_
  refine x_str rfl ?_
  rw [show 12826 + 850 * 10 + 2 + 4 * n = 21328 + 4 * n by omega]
  have ifpart : ∀ (s pp : Nat) (M f2 : Nat → Int32), s < 6 → sortW t en p = some s → Tp M pp en → st ≤ pp → M 23 = nI st → (∀ k, k ≠ 6 → k ≠ 8 → k ≠ 9 → k ≠ 23 → M k = m k) → (∀ i, i < 21328 + 4 * n → f2 i = f i) → f2 (21328 + 4 * n) = nI s → f2 (21328 + 4 * n + 1) = nrW t en p s → f2 (21328 + 4 * n + 2) = nI st → f2 (21328 + 4 * n + 3) = nI st → (∀ i, 21376 ≤ i → f2 i = f i) → pRule t en n p = pIf t en pp s → EX g mbOf (Ev g (d + 30)) (infoOf 254) k_X11_readRule (RQ w m f A B t en n p st) noX w.1 (rW w M f2 A B) 0 0 125 [some (.ref 1424), some (.int (nI n)), some (.int (nI (21328 + 4 * n))), some (.int (nI s))] [] := by
    intro s pp M f2 hs hso hM hpp M23 hMk g1 g2 g3 g4 g5 g6 hR
    unfold pIf at hR
    have a1 := wS_ge (t := t) (en := en) (p := pp)
    have a2 := wE_ge (t := t) (en := en) (p := pp)
    have a3 := wE_le (t := t) hM.2.2.1
    refine x_al rfl rfl ?_
    refine x_str rfl ?_
    refine x_call2 (n_passes (k := 7) hT (by decide) hM hn) rfl (Nat.le_of_ble_eq_true rfl) (Or.inl (by first | exact hn | assumption)) (rcv_at (by first | exact rw_md hn | exact rw_w hn | exact rw_A hn (by exact rfl) | exact rw_B2 hn | exact rw_B3 hn | assumption) (by decide) (by decide)) (Nat.le_of_ble_eq_true rfl) (Nat.le_of_ble_eq_true rfl) (fun E w9 hq => hq.elim) ?_
    rintro v9 w9 ⟨rfl, rfl⟩
    rw [ht]
    have hMk2 : ∀ x y k, k ≠ 6 → k ≠ 8 → k ≠ 9 → k ≠ 23 → tp M x y k = m k := fun x y k h1 h2 h3 h4 => (tp_o ⟨h1, h2⟩).trans (hMk k h1 h2 h3 h4)
    cases h7 : wdB t (wE t en pp) (wS t en pp) 7 with
    | false =>
      rw [if_neg (by rw [h7]; decide)] at hR
      rw [if_neg (by decide)]
      refine x_ifeq rfl (fun c => ?_) (fun c => absurd rfl c)
      refine x_il rfl rfl ?_
      refine x_c rfl ?_
      by_cases h4 : s = 4
      · refine x_icneN (y := 4) rfl (by omega) (fun c => absurd h4 c) (fun c => ?_)
        refine x_c rfl ?_
        refine x_go rfl ?_
        refine x_retz rfl (Nat.le_of_ble_eq_true rfl) (Nat.le_of_ble_eq_true rfl) rfl (by first | rfl | assumption) ?_
        rw [decide_eq_true h4] at hR
        refine ⟨by rw [hR]; rfl, _, f2, rfl, by rw [hR]; rfl, hMk2 _ _, fun i hi => g1 i (by omega), fun _ => ?_⟩
        rw [hR]
        exact ⟨rfl, by rw [tp_o (by decide)]; exact M23, s, hso, g1, g2, g3, g4, g5, g6⟩
      · refine x_icneN (y := 4) rfl (by omega) (fun c => ?_) (fun c => absurd c h4)
        refine x_c rfl ?_
        refine x_retz rfl (Nat.le_of_ble_eq_true rfl) (Nat.le_of_ble_eq_true rfl) rfl (by first | rfl | assumption) ?_
        rw [decide_eq_false h4] at hR
        refine ⟨by rw [hR]; rfl, _, f2, rfl, by rw [hR]; rfl, hMk2 _ _, fun i hi => g1 i (by omega), fun h => ?_⟩
        rw [hR] at h
        exact absurd h (by show ¬ false = true; decide)
    | true =>
      rw [if_pos h7] at hR
      rw [if_pos rfl]
      refine x_ifeq rfl (fun c => absurd c (show ¬ (1 : Int32) = 0 by decide)) (fun c => ?_)
      refine x_al rfl rfl ?_
      refine x_c rfl ?_
      refine x_putM rfl hn rfl rfl rfl (mset_9 _ _) ?_
      refine x_al rfl rfl ?_
      have hTp2 : Tp (upd (tp M (wE t en pp) (wS t en pp)) 9 0) (wE t en pp) en := ⟨rfl, by rw [pk_un (by decide), tp_o (by decide)]; exact hM.2.1, a3, hen⟩
      refine x_call1 ((n_cond (d := d) hT) w _ f2 A B (wE t en pp) st hn ht hTp2 pk_us (by rw [pk_un (by decide), tp_o (by decide)]; exact M23) (by omega)) rfl (Nat.le_of_ble_eq_true rfl) (Or.inl (by first | exact hn | assumption)) (rcv_at (by first | exact rw_md hn | exact rw_w hn | exact rw_A hn (by exact rfl) | exact rw_B2 hn | exact rw_B3 hn | assumption) (by decide) (by decide)) (Nat.le_of_ble_eq_true rfl) (Nat.le_of_ble_eq_true rfl) (fun E w9 hq => hq.elim) ?_
      rintro v9 w9 ⟨rfl, m2, f3, rfl, d1, d2, d3, d4⟩
      have hm2 : ∀ k, k ≠ 6 → k ≠ 8 → k ≠ 9 → k ≠ 23 → m2 k = m k := fun k h1 h2 h3 h4 => (d2 k h1 h2 h3 h4).trans ((pk_un h3).trans (hMk2 _ _ k h1 h2 h3 h4))
      cases hok : (pCond t en 6 (wE t en pp)).1 with
      | false =>
        rw [if_neg (by rw [hok]; decide)] at hR
        refine x_ifne rfl (fun c => absurd rfl c) (fun c => ?_)
        refine x_c rfl ?_
        refine x_retz rfl (Nat.le_of_ble_eq_true rfl) (Nat.le_of_ble_eq_true rfl) rfl (by first | rfl | assumption) ?_
        refine ⟨by rw [hR]; rfl, m2, f3, rfl, by rw [hR]; exact d1, hm2, fun i hi => (d3 i (by omega)).trans (g1 i (by omega)), fun h => ?_⟩
        rw [hR] at h
        exact absurd h (by show ¬ false = true; decide)
      | true =>
        rw [if_pos hok] at hR
        obtain ⟨k1, k2, k3, k4⟩ := d4 hok
        refine x_ifne rfl (fun c => ?_) (fun c => absurd c (show ¬ (1 : Int32) = 0 by decide))
        refine x_al rfl rfl ?_
        refine x_get rfl (rw_md hn) (by exact rfl) ?_
        refine x_il rfl rfl ?_
        refine x_c rfl ?_
        refine x_addN (y := 3) rfl ?_
        refine x_al rfl rfl ?_
        refine x_get rfl (rw_md hn) (by exact rfl) ?_
        first | refine x_iasW rfl hn (by omega) ?_ | refine x_iasA rfl hn (by exact rfl) (by omega) ?_
        refine x_c rfl ?_
        refine x_retz rfl (Nat.le_of_ble_eq_true rfl) (Nat.le_of_ble_eq_true rfl) rfl (by first | rfl | assumption) ?_
        rw [k3]
        refine ⟨by rw [hR, hok]; rfl, m2, _, rfl, by rw [hR]; exact d1, hm2, fun i hi => (pk_un (by omega)).trans ((d3 i (by omega)).trans (g1 i (by omega))), fun _ => ?_⟩
        rw [hR]
        have lo : ∀ i, i < 21376 → f3 i = f2 i := fun i hi => by rw [k4]; exact wrL_lo _ _ _ _ (by omega)
        refine ⟨k1, k3, s, hso, fun i hi => ?_, ?_, ?_, ?_, pk_us, fun i hi => ?_⟩
        · rw [pk_un (by omega), lo i (by omega)]; exact g1 i hi
        · rw [pk_un (by omega), lo _ (by omega)]; exact g2
        · rw [pk_un (by omega), lo _ (by omega)]; exact g3
        · rw [pk_un (by omega), lo _ (by omega)]; exact g4
        · rw [pk_un (by omega), k4]; exact wrL_row _ _ _ _ g6 i hi
  have sortdone : ∀ o, sortW t en p = o → EX g mbOf (Ev g (d + 30)) (infoOf 254) k_X11_readRule (RQ w m f A B t en n p st) noX w.1 (rW w (tp m (wE t en p) (wS t en p)) f A B) 0 0 48 [some (.ref 1424), some (.int (nI n)), some (.int (nI (21328 + 4 * n))), none] [.int (oI o)] := by
    intro o hso
    rw [hso] at hRn
    have m23 : tp m (wE t en p) (wS t en p) 23 = nI st := by rw [tp_o (by decide)]; exact h23
    cases o with
    | none =>
      dsimp only at hRn
      refine x_is (lo' := [_, _, _, _]) rfl (Nat.le_of_ble_eq_true rfl) rfl ?_
      refine x_al rfl rfl ?_
      refine x_get rfl (rw_md hn) (by exact rfl) ?_
      refine x_il rfl rfl ?_
      refine x_il rfl rfl ?_
      first | refine x_iasW rfl hn (by omega) ?_ | refine x_iasA rfl hn (by exact rfl) (by omega) ?_
      refine x_al rfl rfl ?_
      refine x_get rfl (rw_md hn) (by exact rfl) ?_
      refine x_il rfl rfl ?_
      refine x_c rfl ?_
      refine x_addN (y := 1) rfl ?_
      refine x_c rfl ?_
      first | refine x_iasW rfl hn (by omega) ?_ | refine x_iasA rfl hn (by exact rfl) (by omega) ?_
      refine x_al rfl rfl ?_
      refine x_get rfl (rw_md hn) (by exact rfl) ?_
      refine x_il rfl rfl ?_
      refine x_c rfl ?_
      refine x_addN (y := 2) rfl ?_
      refine x_al rfl rfl ?_
      refine x_get rfl (rw_md hn) (by exact rfl) ?_
      rw [m23]
      first | refine x_iasW rfl hn (by omega) ?_ | refine x_iasA rfl hn (by exact rfl) (by omega) ?_
      refine x_al rfl rfl ?_
      refine x_get rfl (rw_md hn) (by exact rfl) ?_
      refine x_il rfl rfl ?_
      refine x_c rfl ?_
      refine x_addN (y := 3) rfl ?_
      refine x_al rfl rfl ?_
      refine x_get rfl (rw_md hn) (by exact rfl) ?_
      rw [m23]
      first | refine x_iasW rfl hn (by omega) ?_ | refine x_iasA rfl hn (by exact rfl) (by omega) ?_
      refine x_il rfl rfl ?_
      refine x_ifge rfl (fun c => absurd c (show ¬ (0 : Int32) ≤ -1 by decide)) (fun c => ?_)
      refine x_c rfl ?_
      refine x_retz rfl (Nat.le_of_ble_eq_true rfl) (Nat.le_of_ble_eq_true rfl) rfl (by first | rfl | assumption) ?_
      refine ⟨by rw [hRn]; rfl, _, _, rfl, by rw [hRn]; rfl, tp_k, fun i hi => ?_, fun h => ?_⟩
      · rw [pk_un (by omega), pk_un (by omega), pk_un (by omega), pk_un (by omega)]
      · rw [hRn] at h
        exact absurd h (by show ¬ false = true; decide)
    | some s =>
      dsimp only at hRn
      obtain ⟨-, -, hs6⟩ := fiW_s _ _ _ hso
      have hs6 : s < 6 := by simp at hs6; omega
      refine x_is (lo' := [_, _, _, _]) rfl (Nat.le_of_ble_eq_true rfl) rfl ?_
      refine x_al rfl rfl ?_
      refine x_get rfl (rw_md hn) (by exact rfl) ?_
      refine x_il rfl rfl ?_
      refine x_il rfl rfl ?_
      first | refine x_iasW rfl hn (by omega) ?_ | refine x_iasA rfl hn (by exact rfl) (by omega) ?_
      refine x_al rfl rfl ?_
      refine x_get rfl (rw_md hn) (by exact rfl) ?_
      refine x_il rfl rfl ?_
      refine x_c rfl ?_
      refine x_addN (y := 1) rfl ?_
      refine x_c rfl ?_
      first | refine x_iasW rfl hn (by omega) ?_ | refine x_iasA rfl hn (by exact rfl) (by omega) ?_
      refine x_al rfl rfl ?_
      refine x_get rfl (rw_md hn) (by exact rfl) ?_
      refine x_il rfl rfl ?_
      refine x_c rfl ?_
      refine x_addN (y := 2) rfl ?_
      refine x_al rfl rfl ?_
      refine x_get rfl (rw_md hn) (by exact rfl) ?_
      rw [m23]
      first | refine x_iasW rfl hn (by omega) ?_ | refine x_iasA rfl hn (by exact rfl) (by omega) ?_
      refine x_al rfl rfl ?_
      refine x_get rfl (rw_md hn) (by exact rfl) ?_
      refine x_il rfl rfl ?_
      refine x_c rfl ?_
      refine x_addN (y := 3) rfl ?_
      refine x_al rfl rfl ?_
      refine x_get rfl (rw_md hn) (by exact rfl) ?_
      rw [m23]
      first | refine x_iasW rfl hn (by omega) ?_ | refine x_iasA rfl hn (by exact rfl) (by omega) ?_
      refine x_il rfl rfl ?_
      rw [show oI (some s) = nI s from rfl]
      refine x_ifge rfl (fun c => ?_) (fun c => absurd (nI_pos' (show s < 2 ^ 31 by omega)) c)
      rw [show upd (upd (upd (upd f (21328 + 4 * n) (nI s)) (21328 + 4 * n + 1) 0) (21328 + 4 * n + 2) (nI st)) (21328 + 4 * n + 3) (nI st) = rowW f n (nI s) 0 (nI st) (nI st) from rfl]
      have r0 : ∀ a b, rowW f n (nI s) a (nI st) b (21328 + 4 * n) = nI s := fun a b => by unfold rowW; rw [pk_un (by omega), pk_un (by omega), pk_un (by omega), pk_us]
      have r1 : ∀ a b, rowW f n (nI s) a (nI st) b (21328 + 4 * n + 1) = a := fun a b => by unfold rowW; rw [pk_un (by omega), pk_un (by omega), pk_us]
      have r2 : ∀ a b, rowW f n (nI s) a (nI st) b (21328 + 4 * n + 2) = nI st := fun a b => by unfold rowW; rw [pk_un (by omega), pk_us]
      have r3 : ∀ a b, rowW f n (nI s) a (nI st) b (21328 + 4 * n + 3) = b := fun a b => by unfold rowW; rw [pk_us]
      have ro : ∀ a b i, (i < 21328 + 4 * n ∨ 21328 + 4 * n + 3 < i) → rowW f n (nI s) a (nI st) b i = f i := fun a b i hi => by unfold rowW; rw [pk_un (by omega), pk_un (by omega), pk_un (by omega), pk_un (by omega)]
      generalize hf1 : rowW f n (nI s) 0 (nI st) (nI st) = f1
      have q0 : f1 (21328 + 4 * n) = nI s := by rw [← hf1]; exact r0 _ _
      have q1 : f1 (21328 + 4 * n + 1) = 0 := by rw [← hf1]; exact r1 _ _
      have q2 : f1 (21328 + 4 * n + 2) = nI st := by rw [← hf1]; exact r2 _ _
      have q3 : f1 (21328 + 4 * n + 3) = nI st := by rw [← hf1]; exact r3 _ _
      have qo : ∀ i, (i < 21328 + 4 * n ∨ 21328 + 4 * n + 3 < i) → f1 i = f i := fun i hi => by rw [← hf1]; exact ro _ _ i hi
      have b1 := wS_ge (t := t) (en := en) (p := wE t en p)
      have b2 := wS_le (t := t) e3
      have b3 : wS t en (wE t en p) ≤ runs t en 48 57 (wS t en (wE t en p)) := runs_ge
      have b4 : runs t en 48 57 (wS t en (wE t en p)) ≤ en := runs_le b2
      have noif : ¬ (2 ≤ s ∧ s ≤ 4) → EX g mbOf (Ev g (d + 30)) (infoOf 254) k_X11_readRule (RQ w m f A B t en n p st) noX w.1 (rW w (tp m (wE t en p) (wS t en p)) f1 A B) 0 0 125 [some (.ref 1424), some (.int (nI n)), some (.int (nI (21328 + 4 * n))), some (.int (nI s))] [] := by
        intro hs
        rw [if_neg hs] at hRn
        exact ifpart s (wE t en p) _ f1 hs6 hso (hTp.tp e3) (by omega) m23 tp_k (fun i hi => qo i (Or.inl hi)) q0 (by rw [q1]; unfold nrW; rw [if_neg hs]) q2 q3 (fun i hi => qo i (by omega)) hRn
      have after : (2 ≤ s ∧ s ≤ 4) → ∀ nv, nv = numR t en (wS t en (wE t en p)) (loS s) (hiS s) → EX g mbOf (Ev g (d + 30)) (infoOf 254) k_X11_readRule (RQ w m f A B t en n p st) noX w.1 (rW w (tp (tp m (wE t en p) (wS t en p)) (runs t en 48 57 (wS t en (wE t en p))) (wS t en (wE t en p))) f1 A B) 0 0 110 [some (.ref 1424), some (.int (nI n)), some (.int (nI (21328 + 4 * n))), some (.int (nI s))] [.int nv, .int (nI (21328 + 4 * n + 1)), .ref 1425] := by
        intro hs nv hnv
        rw [if_pos hs, ← hnv] at hRn
        first | refine x_iasW rfl hn (by omega) ?_ | refine x_iasA rfl hn (by exact rfl) (by omega) ?_
        refine x_al rfl rfl ?_
        refine x_get rfl (rw_md hn) (by exact rfl) ?_
        refine x_il rfl rfl ?_
        refine x_c rfl ?_
        refine x_addN (y := 1) rfl ?_
        refine x_iaN rfl (by first | exact rw_md hn | exact rw_w hn | exact rw_A hn (by exact rfl) | exact rw_B2 hn | exact rw_B3 hn | assumption) (by omega) ?_
        rw [pk_us]
        have hk2 : ∀ x y k, k ≠ 6 → k ≠ 8 → k ≠ 9 → k ≠ 23 → tp (tp m (wE t en p) (wS t en p)) x y k = m k := fun x y k h1 h2 h3 h4 => (tp_o ⟨h1, h2⟩).trans (tp_o ⟨h1, h2⟩)
        have w0 : ∀ i, i < 21328 + 4 * n → upd f1 (21328 + 4 * n + 1) nv i = f i := fun i hi => (pk_un (by omega)).trans (qo i (Or.inl hi))
        have w6 : ∀ i, 21376 ≤ i → upd f1 (21328 + 4 * n + 1) nv i = f i := fun i hi => (pk_un (by omega)).trans (qo i (by omega))
        have wn : upd f1 (21328 + 4 * n + 1) nv (21328 + 4 * n + 1) = nrW t en p s := by rw [pk_us]; unfold nrW; rw [if_pos hs, hnv]
        refine x_ifge rfl (fun c1 => ?_) (fun c1 => ?_)
        rotate_left
        · refine x_c rfl ?_
          refine x_retz rfl (Nat.le_of_ble_eq_true rfl) (Nat.le_of_ble_eq_true rfl) rfl (by first | rfl | assumption) ?_
          rw [if_pos (Int32.not_le.mp c1)] at hRn
          refine ⟨by rw [hRn]; rfl, _, _, rfl, by rw [hRn]; rfl, hk2 _ _, fun i hi => w0 i (by omega), fun h => ?_⟩
          rw [hRn] at h
          exact absurd h (by show ¬ false = true; decide)
        refine x_il rfl rfl ?_
        refine x_c rfl ?_
        rw [if_neg (Int32.not_lt.mpr c1)] at hRn
        refine x_iceqN (y := 4) rfl (by omega) (fun c2 => ?_) (fun c2 => ?_)
        · skip
          rw [if_pos c2] at hRn
          exact ifpart s (runs t en 48 57 (wS t en (wE t en p))) _ _ hs6 hso ((hTp.tp e3).tp b4) (by omega) (by rw [tp_o (by decide)]; exact m23) (hk2 _ _) w0 (by rw [pk_un (by omega)]; exact q0) wn (by rw [pk_un (by omega)]; exact q2) (by rw [pk_un (by omega)]; exact q3) w6 hRn
        refine x_c rfl ?_
        refine x_retz rfl (Nat.le_of_ble_eq_true rfl) (Nat.le_of_ble_eq_true rfl) rfl (by first | rfl | assumption) ?_
        rw [if_neg c2] at hRn
        refine ⟨by rw [hRn]; rfl, _, _, rfl, by rw [hRn]; rfl, hk2 _ _, fun i hi => w0 i (by omega), fun _ => ?_⟩
        rw [hRn]
        exact ⟨rfl, by rw [tp_o (by decide)]; exact m23, s, hso, w0, by rw [pk_un (by omega)]; exact q0, wn, by rw [pk_un (by omega)]; exact q2, by rw [pk_un (by omega)]; exact q3, w6⟩
      clear r0 r1 r2 r3 ro hf1 ifpart
      refine x_il rfl rfl ?_
      refine x_c rfl ?_
      refine x_c rfl ?_
      refine x_call3 (m_in) rfl (Nat.le_of_ble_eq_true rfl) (Or.inl (by first | exact hn | assumption)) trivial (Nat.le_of_ble_eq_true rfl) (Nat.le_of_ble_eq_true rfl) (fun E w9 hq => hq.elim) ?_
      rintro v9 w9 ⟨rfl, rfl⟩
      rcases (show s = 0 ∨ s = 1 ∨ s = 5 ∨ s = 2 ∨ s = 3 ∨ s = 4 by omega) with rfl | rfl | rfl | rfl | rfl | rfl
      · refine x_ifeqB rfl (fun c => ?_) (fun c => absurd c (by decide))
        exact noif (by decide)
      · refine x_ifeqB rfl (fun c => ?_) (fun c => absurd c (by decide))
        exact noif (by decide)
      · refine x_ifeqB rfl (fun c => ?_) (fun c => absurd c (by decide))
        exact noif (by decide)
      · refine x_ifeqB rfl (fun c => absurd (show (2 : Int32) ≤ nI 2 ∧ nI 2 ≤ 4 by decide) c) (fun c => ?_)
        refine x_al rfl rfl ?_
        refine x_get rfl (rw_md hn) (by exact rfl) ?_
        refine x_il rfl rfl ?_
        refine x_c rfl ?_
        refine x_addN (y := 1) rfl ?_
        refine x_al rfl rfl ?_
        refine x_il rfl rfl ?_
        refine x_c rfl ?_
        refine x_icne rfl (fun c => ?_) (fun c => absurd c (by decide))
        refine x_c rfl ?_
        refine x_il rfl rfl ?_
        refine x_c rfl ?_
        refine x_icne rfl (fun c => absurd rfl c) (fun c => ?_)
        refine x_c rfl ?_
        refine x_go rfl ?_
        refine x_call3 (n_number (hTp.tp e3) hn) rfl (Nat.le_of_ble_eq_true rfl) (Or.inl (by first | exact hn | assumption)) (rcv_at (by first | exact rw_md hn | exact rw_w hn | exact rw_A hn (by exact rfl) | exact rw_B2 hn | exact rw_B3 hn | assumption) (by decide) (by decide)) (Nat.le_of_ble_eq_true rfl) (Nat.le_of_ble_eq_true rfl) (fun E w9 hq => hq.elim) ?_
        rintro v9 w9 ⟨rfl, rfl⟩
        rw [ht]
        exact after (by decide) _ rfl
      · refine x_ifeqB rfl (fun c => absurd (show (2 : Int32) ≤ nI 3 ∧ nI 3 ≤ 4 by decide) c) (fun c => ?_)
        refine x_al rfl rfl ?_
        refine x_get rfl (rw_md hn) (by exact rfl) ?_
        refine x_il rfl rfl ?_
        refine x_c rfl ?_
        refine x_addN (y := 1) rfl ?_
        refine x_al rfl rfl ?_
        refine x_il rfl rfl ?_
        refine x_c rfl ?_
        refine x_icne rfl (fun c => ?_) (fun c => absurd c (by decide))
        refine x_c rfl ?_
        refine x_il rfl rfl ?_
        refine x_c rfl ?_
        refine x_icne rfl (fun c => ?_) (fun c => absurd c (by decide))
        refine x_il rfl rfl ?_
        refine x_c rfl ?_
        refine x_icne rfl (fun c => absurd rfl c) (fun c => ?_)
        refine x_c rfl ?_
        refine x_go rfl ?_
        refine x_call3 (n_number (hTp.tp e3) hn) rfl (Nat.le_of_ble_eq_true rfl) (Or.inl (by first | exact hn | assumption)) (rcv_at (by first | exact rw_md hn | exact rw_w hn | exact rw_A hn (by exact rfl) | exact rw_B2 hn | exact rw_B3 hn | assumption) (by decide) (by decide)) (Nat.le_of_ble_eq_true rfl) (Nat.le_of_ble_eq_true rfl) (fun E w9 hq => hq.elim) ?_
        rintro v9 w9 ⟨rfl, rfl⟩
        rw [ht]
        exact after (by decide) _ rfl
      · refine x_ifeqB rfl (fun c => absurd (show (2 : Int32) ≤ nI 4 ∧ nI 4 ≤ 4 by decide) c) (fun c => ?_)
        refine x_al rfl rfl ?_
        refine x_get rfl (rw_md hn) (by exact rfl) ?_
        refine x_il rfl rfl ?_
        refine x_c rfl ?_
        refine x_addN (y := 1) rfl ?_
        refine x_al rfl rfl ?_
        refine x_il rfl rfl ?_
        refine x_c rfl ?_
        refine x_icne rfl (fun c => absurd rfl c) (fun c => ?_)
        refine x_c rfl ?_
        refine x_go rfl ?_
        refine x_il rfl rfl ?_
        refine x_c rfl ?_
        refine x_icne rfl (fun c => ?_) (fun c => absurd c (by decide))
        refine x_il rfl rfl ?_
        refine x_c rfl ?_
        refine x_icne rfl (fun c => ?_) (fun c => absurd c (by decide))
        refine x_c rfl ?_
        refine x_call3 (n_number (hTp.tp e3) hn) rfl (Nat.le_of_ble_eq_true rfl) (Or.inl (by first | exact hn | assumption)) (rcv_at (by first | exact rw_md hn | exact rw_w hn | exact rw_A hn (by exact rfl) | exact rw_B2 hn | exact rw_B3 hn | assumption) (by decide) (by decide)) (Nat.le_of_ble_eq_true rfl) (Nat.le_of_ble_eq_true rfl) (fun E w9 hq => hq.elim) ?_
        rintro v9 w9 ⟨rfl, rfl⟩
        rw [ht]
        exact after (by decide) _ rfl
  refine x_call2 (n_isWordK (k := 1) (p := wE t en p) (b := wS t en p) hT (by decide) tp_6 tp_8 wE_ge (by omega) hn) rfl (Nat.le_of_ble_eq_true rfl) (Or.inl (by first | exact hn | assumption)) (rcv_at (by first | exact rw_md hn | exact rw_w hn | exact rw_A hn (by exact rfl) | exact rw_B2 hn | exact rw_B3 hn | assumption) (by decide) (by decide)) (Nat.le_of_ble_eq_true rfl) (Nat.le_of_ble_eq_true rfl) (fun E w9 hq => hq.elim) ?_
  rintro v9 w9 ⟨rfl, rfl⟩
  rw [ht]
  cases hw1 : wdB t (wE t en p) (wS t en p) 1 with
  | true =>
    refine x_ifeq rfl (fun c => absurd c (show ¬ (1 : Int32) = 0 by decide)) (fun c => ?_)
    refine x_c rfl ?_
    refine x_go rfl ?_
    exact sortdone (some 0) (by unfold sortW; unfold fiW; rw [if_pos hw1])
  | false =>
    refine x_ifeq rfl (fun c => ?_) (fun c => absurd rfl c)
    refine x_al rfl rfl ?_
    refine x_str rfl ?_
    refine x_call2 (n_isWordK (k := 2) (p := wE t en p) (b := wS t en p) hT (by decide) tp_6 tp_8 wE_ge (by omega) hn) rfl (Nat.le_of_ble_eq_true rfl) (Or.inl (by first | exact hn | assumption)) (rcv_at (by first | exact rw_md hn | exact rw_w hn | exact rw_A hn (by exact rfl) | exact rw_B2 hn | exact rw_B3 hn | assumption) (by decide) (by decide)) (Nat.le_of_ble_eq_true rfl) (Nat.le_of_ble_eq_true rfl) (fun E w9 hq => hq.elim) ?_
    rintro v9 w9 ⟨rfl, rfl⟩
    rw [ht]
    cases hw2 : wdB t (wE t en p) (wS t en p) 2 with
    | true =>
      refine x_ifeq rfl (fun c => absurd c (show ¬ (1 : Int32) = 0 by decide)) (fun c => ?_)
      refine x_c rfl ?_
      refine x_go rfl ?_
      exact sortdone (some 1) (by unfold sortW; unfold fiW; rw [if_neg (by rw [hw1]; decide)]; unfold fiW; rw [if_pos hw2])
    | false =>
      refine x_ifeq rfl (fun c => ?_) (fun c => absurd rfl c)
      refine x_al rfl rfl ?_
      refine x_str rfl ?_
      refine x_call2 (n_isWordK (k := 3) (p := wE t en p) (b := wS t en p) hT (by decide) tp_6 tp_8 wE_ge (by omega) hn) rfl (Nat.le_of_ble_eq_true rfl) (Or.inl (by first | exact hn | assumption)) (rcv_at (by first | exact rw_md hn | exact rw_w hn | exact rw_A hn (by exact rfl) | exact rw_B2 hn | exact rw_B3 hn | assumption) (by decide) (by decide)) (Nat.le_of_ble_eq_true rfl) (Nat.le_of_ble_eq_true rfl) (fun E w9 hq => hq.elim) ?_
      rintro v9 w9 ⟨rfl, rfl⟩
      rw [ht]
      cases hw3 : wdB t (wE t en p) (wS t en p) 3 with
      | true =>
        refine x_ifeq rfl (fun c => absurd c (show ¬ (1 : Int32) = 0 by decide)) (fun c => ?_)
        refine x_c rfl ?_
        refine x_go rfl ?_
        exact sortdone (some 2) (by unfold sortW; unfold fiW; rw [if_neg (by rw [hw1]; decide)]; unfold fiW; rw [if_neg (by rw [hw2]; decide)]; unfold fiW; rw [if_pos hw3])
      | false =>
        refine x_ifeq rfl (fun c => ?_) (fun c => absurd rfl c)
        refine x_al rfl rfl ?_
        refine x_str rfl ?_
        refine x_call2 (n_isWordK (k := 4) (p := wE t en p) (b := wS t en p) hT (by decide) tp_6 tp_8 wE_ge (by omega) hn) rfl (Nat.le_of_ble_eq_true rfl) (Or.inl (by first | exact hn | assumption)) (rcv_at (by first | exact rw_md hn | exact rw_w hn | exact rw_A hn (by exact rfl) | exact rw_B2 hn | exact rw_B3 hn | assumption) (by decide) (by decide)) (Nat.le_of_ble_eq_true rfl) (Nat.le_of_ble_eq_true rfl) (fun E w9 hq => hq.elim) ?_
        rintro v9 w9 ⟨rfl, rfl⟩
        rw [ht]
        cases hw4 : wdB t (wE t en p) (wS t en p) 4 with
        | true =>
          refine x_ifeq rfl (fun c => absurd c (show ¬ (1 : Int32) = 0 by decide)) (fun c => ?_)
          refine x_c rfl ?_
          refine x_go rfl ?_
          exact sortdone (some 3) (by unfold sortW; unfold fiW; rw [if_neg (by rw [hw1]; decide)]; unfold fiW; rw [if_neg (by rw [hw2]; decide)]; unfold fiW; rw [if_neg (by rw [hw3]; decide)]; unfold fiW; rw [if_pos hw4])
        | false =>
          refine x_ifeq rfl (fun c => ?_) (fun c => absurd rfl c)
          refine x_al rfl rfl ?_
          refine x_str rfl ?_
          refine x_call2 (n_isWordK (k := 5) (p := wE t en p) (b := wS t en p) hT (by decide) tp_6 tp_8 wE_ge (by omega) hn) rfl (Nat.le_of_ble_eq_true rfl) (Or.inl (by first | exact hn | assumption)) (rcv_at (by first | exact rw_md hn | exact rw_w hn | exact rw_A hn (by exact rfl) | exact rw_B2 hn | exact rw_B3 hn | assumption) (by decide) (by decide)) (Nat.le_of_ble_eq_true rfl) (Nat.le_of_ble_eq_true rfl) (fun E w9 hq => hq.elim) ?_
          rintro v9 w9 ⟨rfl, rfl⟩
          rw [ht]
          cases hw5 : wdB t (wE t en p) (wS t en p) 5 with
          | true =>
            refine x_ifeq rfl (fun c => absurd c (show ¬ (1 : Int32) = 0 by decide)) (fun c => ?_)
            refine x_c rfl ?_
            refine x_go rfl ?_
            exact sortdone (some 4) (by unfold sortW; unfold fiW; rw [if_neg (by rw [hw1]; decide)]; unfold fiW; rw [if_neg (by rw [hw2]; decide)]; unfold fiW; rw [if_neg (by rw [hw3]; decide)]; unfold fiW; rw [if_neg (by rw [hw4]; decide)]; unfold fiW; rw [if_pos hw5])
          | false =>
            refine x_ifeq rfl (fun c => ?_) (fun c => absurd rfl c)
            refine x_al rfl rfl ?_
            refine x_str rfl ?_
            refine x_call2 (n_isWordK (k := 6) (p := wE t en p) (b := wS t en p) hT (by decide) tp_6 tp_8 wE_ge (by omega) hn) rfl (Nat.le_of_ble_eq_true rfl) (Or.inl (by first | exact hn | assumption)) (rcv_at (by first | exact rw_md hn | exact rw_w hn | exact rw_A hn (by exact rfl) | exact rw_B2 hn | exact rw_B3 hn | assumption) (by decide) (by decide)) (Nat.le_of_ble_eq_true rfl) (Nat.le_of_ble_eq_true rfl) (fun E w9 hq => hq.elim) ?_
            rintro v9 w9 ⟨rfl, rfl⟩
            rw [ht]
            cases hw6 : wdB t (wE t en p) (wS t en p) 6 with
            | true =>
              refine x_ifeq rfl (fun c => absurd c (show ¬ (1 : Int32) = 0 by decide)) (fun c => ?_)
              refine x_c rfl ?_
              refine x_go rfl ?_
              exact sortdone (some 5) (by unfold sortW; unfold fiW; rw [if_neg (by rw [hw1]; decide)]; unfold fiW; rw [if_neg (by rw [hw2]; decide)]; unfold fiW; rw [if_neg (by rw [hw3]; decide)]; unfold fiW; rw [if_neg (by rw [hw4]; decide)]; unfold fiW; rw [if_neg (by rw [hw5]; decide)]; unfold fiW; rw [if_pos hw6])
            | false =>
              refine x_ifeq rfl (fun c => ?_) (fun c => absurd rfl c)
              refine x_c rfl ?_
              exact sortdone none (by unfold sortW; unfold fiW; rw [if_neg (by rw [hw1]; decide)]; unfold fiW; rw [if_neg (by rw [hw2]; decide)]; unfold fiW; rw [if_neg (by rw [hw3]; decide)]; unfold fiW; rw [if_neg (by rw [hw4]; decide)]; unfold fiW; rw [if_neg (by rw [hw5]; decide)]; unfold fiW; rw [if_neg (by rw [hw6]; decide)]; rfl)
end RULE
