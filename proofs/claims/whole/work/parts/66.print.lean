/-! print: a field is read; mset_ -/
def dotB (t : Nat → Int32) (en s : Nat) : Bool := decide (s < en ∧ 46 ≤ t s ∧ t s ≤ 46)
def digB (t : Nat → Int32) (en s : Nat) : Bool := decide (s < en ∧ 48 ≤ t s ∧ t s ≤ 55)
/-- a field's cells: r still to come, at p; whether right, where the last word began, the draft -/
def pF (t : Nat → Int32) (en : Nat) : Nat → Nat → (Nat → Int32) → Bool × Nat × (Nat → Int32)
  | 0, p, dr => (decide (wS t en p = en), wS t en p, dr)
  | r + 1, p, dr => if (0 < 63 - r ∧ (63 - r) % 8 = 0) ∧ ¬ sgB t en p 47 = true then (false, wS t en p, dr) else if digB t en (wS t en (if 0 < 63 - r ∧ (63 - r) % 8 = 0 then wS t en p + 1 else p)) = true ∨ dotB t en (wS t en (if 0 < 63 - r ∧ (63 - r) % 8 = 0 then wS t en p + 1 else p)) = true then pF t en r (wS t en (if 0 < 63 - r ∧ (63 - r) % 8 = 0 then wS t en p + 1 else p) + 1) (upd dr (63 - r) (if dotB t en (wS t en (if 0 < 63 - r ∧ (63 - r) % 8 = 0 then wS t en p + 1 else p)) = true then -1 else t (wS t en (if 0 < 63 - r ∧ (63 - r) % 8 = 0 then wS t en p + 1 else p)) - 48)) else (false, wS t en (if 0 < 63 - r ∧ (63 - r) % 8 = 0 then wS t en p + 1 else p), dr)
abbrev FQ (w : aW) (m f : Nat → Int32) (A : Nat → Nat → Int32) (B : Nat → Nat → Int64) (R : Bool × Nat × (Nat → Int32)) : Option Value → aW → Prop := fun v w' => v = some (.int (bI R.1)) ∧ ∃ m', w' = rW w m' f (udA A 1429 R.2.2) B ∧ m' 8 = nI R.2.1 ∧ ∀ k, k ≠ 6 → k ≠ 8 → m' k = m k
section CALLS
variable {g : aG} {d : Nat} {w : aW} {m f : Nat → Int32} {A : Nat → Nat → Int32} {B : Nat → Nat → Int64}
theorem n_readField {t : Nat → Int32} {en p : Nat} (ht : A 1427 = t) (hTp : Tp m p en) (hn : w.1 = N0) : Ev g (d + 4) 197 [.ref 1424] (rW w m f A B) (FQ w m f A B (pF t en 64 p (A 1429))) noX := by
  generalize hP : pF t en 64 p (A 1429) = P
  refine ev_X11_readField ?_ (Nat.le_of_ble_eq_true rfl)
  refine x_lo (lo' := [some (.ref 1424), none]) rfl ?_
  refine x_c rfl ?_
  refine x_is (lo' := [_, _]) rfl (Nat.le_of_ble_eq_true rfl) rfl ?_
  have loop : ∀ r k p1 m1 dr, k + r = 64 → Tp m1 p1 en → (∀ k, k ≠ 6 → k ≠ 8 → m1 k = m k) → pF t en r p1 dr = P → EX g mbOf (Ev g (d + 3)) (infoOf 197) k_X11_readField (FQ w m f A B P) noX w.1 (rW w m1 f (udA A 1429 dr) B) 0 0 2 [some (.ref 1424), some (.int (nI k))] [] := by
    intro r
    induction r with
    | zero =>
      intro k p1 m1 dr hk hT hmk hR
      have ht2 : udA A 1429 dr 1427 = t := ht
      have g2 := wS_le (t := t) hT.2.2.1
      have hen := hT.2.2.2
      unfold pF at hR
      refine x_il rfl rfl ?_
      refine x_c rfl ?_
      refine x_icgeN (y := 64) rfl (by omega) (fun c => ?_) (fun c => absurd (show 64 ≤ k by omega) (by omega))
      refine x_al rfl rfl ?_
      refine x_call1 (n_blanks hT hn) rfl (Nat.le_of_ble_eq_true rfl) (Or.inl (by first | exact hn | assumption)) (rcv_at (by first | exact rw_md hn | exact rw_w hn | exact rw_A hn (by exact rfl) | exact rw_B2 hn | exact rw_B3 hn | assumption) (by decide) (by decide)) (Nat.le_of_ble_eq_true rfl) (Nat.le_of_ble_eq_true rfl) (fun E w9 hq => hq.elim) ?_
      rintro v9 w9 ⟨rfl, rfl⟩
      refine x_al rfl rfl ?_
      refine x_get rfl (rw_md hn) (by exact rfl) ?_
      refine x_al rfl rfl ?_
      refine x_get rfl (rw_md hn) (by exact rfl) ?_
      rw [ht2, tp_6, tp_o (by decide), hT.2.1, show runs t en 32 32 p1 = wS t en p1 from rfl]
      have hk2 : ∀ k, k ≠ 6 → k ≠ 8 → tp m1 (wS t en p1) (wS t en p1) k = m k := fun k h1 h2 => (tp_o ⟨h1, h2⟩).trans (hmk k h1 h2)
      refine x_icneN rfl (by omega) (fun c1 => ?_) (fun c1 => ?_)
      rotate_left
      · refine x_c rfl ?_
        refine x_go rfl ?_
        refine x_retz rfl (Nat.le_of_ble_eq_true rfl) (Nat.le_of_ble_eq_true rfl) rfl (by first | rfl | assumption) ?_
        rw [decide_eq_true c1] at hR
        subst hR
        exact ⟨rfl, _, rfl, rfl, hk2⟩
      refine x_c rfl ?_
      refine x_retz rfl (Nat.le_of_ble_eq_true rfl) (Nat.le_of_ble_eq_true rfl) rfl (by first | rfl | assumption) ?_
      rw [decide_eq_false c1] at hR
      subst hR
      exact ⟨rfl, _, rfl, rfl, hk2⟩
    | succ r ih =>
      intro k p1 m1 dr hk hT hmk hR
      have ht2 : ∀ dr, udA A 1429 dr 1427 = t := fun _ => ht
      have hen := hT.2.2.2
      unfold pF at hR
      rw [show 63 - r = k by omega] at hR
      have cell : ∀ p2 m2, Tp m2 p2 en → (∀ k, k ≠ 6 → k ≠ 8 → m2 k = m k) → (if digB t en (wS t en p2) = true ∨ dotB t en (wS t en p2) = true then pF t en r (wS t en p2 + 1) (upd dr k (if dotB t en (wS t en p2) = true then -1 else t (wS t en p2) - 48)) else (false, wS t en p2, dr)) = P → EX g mbOf (Ev g (d + 3)) (infoOf 197) k_X11_readField (FQ w m f A B P) noX w.1 (rW w m2 f (udA A 1429 dr) B) 0 0 17 [some (.ref 1424), some (.int (nI k))] [] := by
        intro p2 m2 hT2 hm2 hR
        have g2 := wS_le (t := t) hT2.2.2.1
        have hT3 : Tp (tp m2 (wS t en p2) (wS t en p2)) (wS t en p2) en := hT2.tp g2
        have hk2 : ∀ x y k, k ≠ 6 → k ≠ 8 → tp m2 x y k = m k := fun x y k h1 h2 => (tp_o ⟨h1, h2⟩).trans (hm2 k h1 h2)
        refine x_al rfl rfl ?_
        refine x_call1 (n_blanks hT2 hn) rfl (Nat.le_of_ble_eq_true rfl) (Or.inl (by first | exact hn | assumption)) (rcv_at (by first | exact rw_md hn | exact rw_w hn | exact rw_A hn (by exact rfl) | exact rw_B2 hn | exact rw_B3 hn | assumption) (by decide) (by decide)) (Nat.le_of_ble_eq_true rfl) (Nat.le_of_ble_eq_true rfl) (fun E w9 hq => hq.elim) ?_
        rintro v9 w9 ⟨rfl, rfl⟩
        refine x_al rfl rfl ?_
        refine x_c rfl ?_
        refine x_c rfl ?_
        rw [ht2, show runs t en 32 32 p2 = wS t en p2 from rfl]
        have good : (digB t en (wS t en p2) = true ∨ dotB t en (wS t en p2) = true) → EX g mbOf (Ev g (d + 3)) (infoOf 197) k_X11_readField (FQ w m f A B P) noX w.1 (rW w (tp m2 (wS t en p2) (wS t en p2)) f (udA A 1429 dr) B) 0 0 31 [some (.ref 1424), some (.int (nI k))] [] := by
          intro hg
          rw [if_pos hg] at hR
          have hlt : wS t en p2 < en := hg.elim (fun h => (of_decide_eq_true h).1) (fun h => (of_decide_eq_true h).1)
          have put : ∀ v : Int32, v = (if dotB t en (wS t en p2) = true then -1 else t (wS t en p2) - 48) → EX g mbOf (Ev g (d + 3)) (infoOf 197) k_X11_readField (FQ w m f A B P) noX w.1 (rW w (tp m2 (wS t en p2) (wS t en p2)) f (udA A 1429 dr) B) 0 0 48 [some (.ref 1424), some (.int (nI k))] [.int v, .int (nI k), .ref 1429] := by
            intro v hv
            rw [← hv] at hR
            first | refine x_iasW rfl hn (by omega) ?_ | refine x_iasA rfl hn (by exact rfl) (by omega) ?_
            refine x_al rfl rfl ?_
            refine x_dup rfl rfl ?_
            refine x_get rfl (rw_md hn) (by exact rfl) ?_
            refine x_c rfl ?_
            refine x_add rfl ?_
            refine x_putM rfl hn rfl rfl rfl (mset_6 _ _) ?_
            refine x_inc1 (lo' := [_, _]) rfl rfl rfl ?_
            refine x_go rfl ?_
            rw [udA_udA, tp_inc]
            exact ih (k + 1) _ _ _ (by omega) (hT2.tp (by omega)) (hk2 _ _) hR
          refine x_al rfl rfl ?_
          refine x_get rfl (rw_md hn) (by exact rfl) ?_
          refine x_il rfl rfl ?_
          refine x_al rfl rfl ?_
          refine x_c rfl ?_
          refine x_c rfl ?_
          refine x_call3 (n_isAt hT3 hn) rfl (Nat.le_of_ble_eq_true rfl) (Or.inl (by first | exact hn | assumption)) (rcv_at (by first | exact rw_md hn | exact rw_w hn | exact rw_A hn (by exact rfl) | exact rw_B2 hn | exact rw_B3 hn | assumption) (by decide) (by decide)) (Nat.le_of_ble_eq_true rfl) (Nat.le_of_ble_eq_true rfl) (fun E w9 hq => hq.elim) ?_
          rintro v9 w9 ⟨rfl, rfl⟩
          rw [ht2]
          refine x_ifeqB rfl (fun c1 => ?_) (fun c1 => ?_)
          · refine x_al rfl rfl ?_
            refine x_get rfl (rw_md hn) (by exact rfl) ?_
            refine x_al rfl rfl ?_
            refine x_get rfl (rw_md hn) (by exact rfl) ?_
            rw [tp_6]
            first | refine x_baN rfl (rw_A hn (by exact rfl)) (by omega) ?_ | refine x_zaN rfl (by first | exact rw_md hn | exact rw_w hn | exact rw_A hn (by exact rfl) | exact rw_B2 hn | exact rw_B3 hn | assumption) (by omega) ?_
            refine x_c rfl ?_
            refine x_sub rfl ?_
            rw [ht2]
            exact put _ (if_neg (show ¬ dotB t en (wS t en p2) = true from fun h => c1 (of_decide_eq_true h))).symm
          refine x_c rfl ?_
          refine x_go rfl ?_
          exact put _ (if_pos (show dotB t en (wS t en p2) = true from decide_eq_true c1)).symm
        refine x_call3 (n_isAt hT3 hn) rfl (Nat.le_of_ble_eq_true rfl) (Or.inl (by first | exact hn | assumption)) (rcv_at (by first | exact rw_md hn | exact rw_w hn | exact rw_A hn (by exact rfl) | exact rw_B2 hn | exact rw_B3 hn | assumption) (by decide) (by decide)) (Nat.le_of_ble_eq_true rfl) (Nat.le_of_ble_eq_true rfl) (fun E w9 hq => hq.elim) ?_
        rintro v9 w9 ⟨rfl, rfl⟩
        rw [ht2]
        refine x_ifneB rfl (fun c1 => ?_) (fun c1 => ?_)
        · skip
          exact good (Or.inl (decide_eq_true c1))
        refine x_al rfl rfl ?_
        refine x_c rfl ?_
        refine x_c rfl ?_
        refine x_call3 (n_isAt hT3 hn) rfl (Nat.le_of_ble_eq_true rfl) (Or.inl (by first | exact hn | assumption)) (rcv_at (by first | exact rw_md hn | exact rw_w hn | exact rw_A hn (by exact rfl) | exact rw_B2 hn | exact rw_B3 hn | assumption) (by decide) (by decide)) (Nat.le_of_ble_eq_true rfl) (Nat.le_of_ble_eq_true rfl) (fun E w9 hq => hq.elim) ?_
        rintro v9 w9 ⟨rfl, rfl⟩
        rw [ht2]
        refine x_ifneB rfl (fun c2 => ?_) (fun c2 => ?_)
        · skip
          exact good (Or.inr (decide_eq_true c2))
        refine x_c rfl ?_
        refine x_retz rfl (Nat.le_of_ble_eq_true rfl) (Nat.le_of_ble_eq_true rfl) rfl (by first | rfl | assumption) ?_
        rw [if_neg (fun h => h.elim (fun h => c1 (of_decide_eq_true h)) (fun h => c2 (of_decide_eq_true h)))] at hR
        subst hR
        exact ⟨rfl, _, rfl, rfl, hk2 _ _⟩
      refine x_il rfl rfl ?_
      refine x_c rfl ?_
      refine x_icgeN (y := 64) rfl (by omega) (fun c => absurd (show k < 64 by omega) (by omega)) (fun c => ?_)
      refine x_il rfl rfl ?_
      by_cases hs : 0 < k ∧ k % 8 = 0
      · rw [if_pos hs] at hR
        refine x_ifle rfl (fun c => absurd c (nI_nle hs.1 (by omega))) (fun c => ?_)
        refine x_il rfl rfl ?_
        refine x_c rfl ?_
        refine x_remN (y := 8) rfl (by omega) ?_
        refine x_ifneN rfl (by omega) (fun c => absurd hs.2 c) (fun c => ?_)
        refine x_al rfl rfl ?_
        refine x_c rfl ?_
        refine x_call2 (n_sgB hT hn) rfl (Nat.le_of_ble_eq_true rfl) (Or.inl (by first | exact hn | assumption)) (rcv_at (by first | exact rw_md hn | exact rw_w hn | exact rw_A hn (by exact rfl) | exact rw_B2 hn | exact rw_B3 hn | assumption) (by decide) (by decide)) (Nat.le_of_ble_eq_true rfl) (Nat.le_of_ble_eq_true rfl) (fun E w9 hq => hq.elim) ?_
        rintro v9 w9 ⟨rfl, rfl⟩
        rw [ht2]
        cases h47 : sgB t en p1 47 with
        | false =>
          rw [if_pos ⟨hs, by rw [h47]; decide⟩] at hR
          subst hR
          refine x_ifne rfl (fun c => absurd rfl c) (fun c => ?_)
          refine x_c rfl ?_
          refine x_retz rfl (Nat.le_of_ble_eq_true rfl) (Nat.le_of_ble_eq_true rfl) rfl (by first | rfl | assumption) ?_
          exact ⟨rfl, _, rfl, rfl, fun k h1 h2 => (tp_o ⟨h1, h2⟩).trans (hmk k h1 h2)⟩
        | true =>
          rw [if_neg (fun h => h.2 h47)] at hR
          have l47 := sgB_lt h47
          refine x_ifne rfl (fun c => ?_) (fun c => absurd c (show ¬ (1 : Int32) = 0 by decide))
          rw [if_pos rfl]
          exact cell _ _ (hT.tp (by omega)) (fun k h1 h2 => (tp_o ⟨h1, h2⟩).trans (hmk k h1 h2)) hR
      · rw [if_neg (fun h => hs h.1), if_neg hs] at hR
        by_cases h0 : k = 0
        · subst h0
          refine x_ifle rfl (fun c => ?_) (fun c => absurd (show (0 : Int32) ≤ 0 by decide) c)
          exact cell _ _ hT hmk hR
        · refine x_ifle rfl (fun c => absurd c (nI_nle (by omega) (by omega))) (fun c => ?_)
          refine x_il rfl rfl ?_
          refine x_c rfl ?_
          refine x_remN (y := 8) rfl (by omega) ?_
          refine x_ifneN rfl (by omega) (fun c => ?_) (fun c => absurd c (fun h => hs ⟨by omega, h⟩))
          exact cell _ _ hT hmk hR
  have := loop 64 0 p m (A 1429) (by decide) hTp (fun _ _ _ => rfl) hP
  rw [udA_self] at this
  exact this
def cpP (p : Nat) (dr : Nat → Int32) : (Nat → Int32) → Nat → Nat → Int32 := acc (fun k h => upd h (5 + 97 * p + k) (dr k))
def PrQ (w : aW) (m f : Nat → Int32) (A : Nat → Nat → Int32) (B : Nat → Nat → Int64) (R : Bool × Nat × (Nat → Int32)) (np : Nat) : Option Value → aW → Prop := fun v w' => ∃ m' f' A', w' = rW w m' f' A' B ∧ m' 3 = m 3 ∧ m' 5 = 0 ∧ (∀ q, q ≠ 1429 → A' q = A q) ∧ ((R.1 = false ∧ v = some (.int 0) ∧ m' 0 = 1 ∧ m' 10 = nI R.2.1 ∧ f' = f) ∨ (R.1 = true ∧ np = 60 ∧ v = some (.int 0) ∧ m' 0 = 2 ∧ m' 10 = -1 ∧ f' = f) ∨ (R.1 = true ∧ ¬ np = 60 ∧ v = some (.int (nI np)) ∧ m' 0 = 0 ∧ m' 10 = -1 ∧ f' = cpP np R.2.2 (upd f 4 (nI (np + 1))) 64))
theorem r_print {t : Nat → Int32} {np en : Nat} (ht : A 1427 = t) (h5 : m 5 = nI en) (hen : en ≤ 400) (hc : f 4 = nI np) (h60 : np ≤ 60) (hn : w.1 = N0) : Ev g (d + 5) 198 [.ref 1424] (rW w m f A B) (PrQ w m f A B (pF t en 64 0 (A 1429)) np) noX := by
  refine ev_X11_print ?_ (Nat.le_of_ble_eq_true rfl)
  refine x_lo (lo' := [some (.ref 1424), none, none, none]) rfl ?_
  refine x_al rfl rfl ?_
  refine x_call1 (n_uses hn) rfl (Nat.le_of_ble_eq_true rfl) (Or.inl (by first | exact hn | assumption)) (rcv_at (by first | exact rw_md hn | exact rw_w hn | exact rw_A hn (by exact rfl) | exact rw_B2 hn | exact rw_B3 hn | assumption) (by decide) (by decide)) (Nat.le_of_ble_eq_true rfl) (Nat.le_of_ble_eq_true rfl) (fun E w9 hq => hq.elim) ?_
  rintro v9 w9 ⟨rfl, rfl⟩
  refine x_al rfl rfl ?_
  have hm0 : useM m 3 = m 3 := useM_o (by decide)
  refine x_call1 (n_readField ht (useM_T h5 hen) hn) rfl (Nat.le_of_ble_eq_true rfl) (Or.inl (by first | exact hn | assumption)) (rcv_at (by first | exact rw_md hn | exact rw_w hn | exact rw_A hn (by exact rfl) | exact rw_B2 hn | exact rw_B3 hn | assumption) (by decide) (by decide)) (Nat.le_of_ble_eq_true rfl) (Nat.le_of_ble_eq_true rfl) (fun E w9 hq => hq.elim) ?_
  rintro v9 w9 ⟨rfl, m2, rfl, d1, d2⟩
  refine x_is (lo' := [_, _, _, _]) rfl (Nat.le_of_ble_eq_true rfl) rfl ?_
  refine x_al rfl rfl ?_
  refine x_il rfl rfl ?_
  generalize pF t en 64 0 (A 1429) = R at *
  obtain ⟨R1, R2, R3⟩ := R
  have q3 : m2 3 = m 3 := (d2 3 (by decide) (by decide)).trans hm0
  have q5 : m2 5 = 0 := (d2 5 (by decide) (by decide)).trans useM_5
  have q0 : m2 0 = 0 := (d2 0 (by decide) (by decide)).trans useM_0
  have hA2 : ∀ q, q ≠ 1429 → udA A 1429 R3 q = A q := fun q hq => by unfold udA; rw [if_neg hq]
  dsimp only at d1
  cases R1 with
  | false =>
    refine x_ifeq rfl (fun c => ?_) (fun c => absurd rfl c)
    refine x_al rfl rfl ?_
    refine x_get rfl (rw_md hn) (by exact rfl) ?_
    rw [d1]
    refine x_putM rfl hn rfl rfl rfl (mset_10 _ _) ?_
    refine x_al rfl rfl ?_
    refine x_il rfl rfl ?_
    refine x_ifne rfl (fun c => absurd rfl c) (fun c => ?_)
    refine x_c rfl ?_
    refine x_go rfl ?_
    refine x_c rfl ?_
    refine x_call3 (n_throwsIf (b := true) hn) rfl (Nat.le_of_ble_eq_true rfl) (Or.inl (by first | exact hn | assumption)) (rcv_at (by first | exact rw_md hn | exact rw_w hn | exact rw_A hn (by exact rfl) | exact rw_B2 hn | exact rw_B3 hn | assumption) (by decide) (by decide)) (Nat.le_of_ble_eq_true rfl) (Nat.le_of_ble_eq_true rfl) (fun E w9 hq => hq.elim) ?_
    rintro v9 w9 ⟨rfl, rfl⟩
    refine x_ifne rfl (fun c => ?_) (fun c => absurd c (show ¬ (1 : Int32) = 0 by decide))
    rw [if_pos rfl]
    refine x_c rfl ?_
    refine x_reti rfl (Nat.le_of_ble_eq_true rfl) (Nat.le_of_ble_eq_true rfl) rfl ?_
    exact ⟨_, f, _, rfl, by rw [pk_un (by decide), pk_un (by decide)]; exact q3, by rw [pk_un (by decide), pk_un (by decide)]; exact q5, hA2, Or.inl ⟨rfl, rfl, pk_us, by rw [pk_un (by decide), pk_us], rfl⟩⟩
  | true =>
    refine x_ifeq rfl (fun c => absurd c (show ¬ (1 : Int32) = 0 by decide)) (fun c => ?_)
    refine x_c rfl ?_
    refine x_go rfl ?_
    refine x_putM rfl hn rfl rfl rfl (mset_10 _ _) ?_
    refine x_al rfl rfl ?_
    refine x_il rfl rfl ?_
    refine x_ifne rfl (fun c => ?_) (fun c => absurd c (show ¬ (1 : Int32) = 0 by decide))
    refine x_c rfl ?_
    refine x_c rfl ?_
    refine x_call3 (n_throwsIf (b := false) hn) rfl (Nat.le_of_ble_eq_true rfl) (Or.inl (by first | exact hn | assumption)) (rcv_at (by first | exact rw_md hn | exact rw_w hn | exact rw_A hn (by exact rfl) | exact rw_B2 hn | exact rw_B3 hn | assumption) (by decide) (by decide)) (Nat.le_of_ble_eq_true rfl) (Nat.le_of_ble_eq_true rfl) (fun E w9 hq => hq.elim) ?_
    rintro v9 w9 ⟨rfl, rfl⟩
    rw [if_neg (by decide)]
    refine x_ifne rfl (fun c => absurd rfl c) (fun c => ?_)
    refine x_al rfl rfl ?_
    refine x_al rfl rfl ?_
    refine x_get rfl (rw_md hn) (by exact rfl) ?_
    refine x_c rfl ?_
    refine x_iaN (j := 4) rfl (by first | exact rw_md hn | exact rw_w hn | exact rw_A hn (by exact rfl) | exact rw_B2 hn | exact rw_B3 hn | assumption) (by omega) ?_
    rw [hc]
    refine x_c rfl ?_
    refine x_icneN (y := 60) rfl (by omega) (fun c1 => ?_) (fun c1 => ?_)
    rotate_left
    · refine x_c rfl ?_
      refine x_go rfl ?_
      refine x_c rfl ?_
      refine x_call3 (n_throwsIf (b := true) hn) rfl (Nat.le_of_ble_eq_true rfl) (Or.inl (by first | exact hn | assumption)) (rcv_at (by first | exact rw_md hn | exact rw_w hn | exact rw_A hn (by exact rfl) | exact rw_B2 hn | exact rw_B3 hn | assumption) (by decide) (by decide)) (Nat.le_of_ble_eq_true rfl) (Nat.le_of_ble_eq_true rfl) (fun E w9 hq => hq.elim) ?_
      rintro v9 w9 ⟨rfl, rfl⟩
      rw [if_pos rfl]
      refine x_ifeq rfl (fun c => absurd c (show ¬ (1 : Int32) = 0 by decide)) (fun c => ?_)
      refine x_c rfl ?_
      refine x_reti rfl (Nat.le_of_ble_eq_true rfl) (Nat.le_of_ble_eq_true rfl) rfl ?_
      exact ⟨_, f, _, rfl, by rw [pk_un (by decide), pk_un (by decide)]; exact q3, by rw [pk_un (by decide), pk_un (by decide)]; exact q5, hA2, Or.inr (Or.inl ⟨rfl, c1, rfl, pk_us, by rw [pk_un (by decide), pk_us], rfl⟩)⟩
    refine x_c rfl ?_
    refine x_c rfl ?_
    refine x_call3 (n_throwsIf (b := false) hn) rfl (Nat.le_of_ble_eq_true rfl) (Or.inl (by first | exact hn | assumption)) (rcv_at (by first | exact rw_md hn | exact rw_w hn | exact rw_A hn (by exact rfl) | exact rw_B2 hn | exact rw_B3 hn | assumption) (by decide) (by decide)) (Nat.le_of_ble_eq_true rfl) (Nat.le_of_ble_eq_true rfl) (fun E w9 hq => hq.elim) ?_
    rintro v9 w9 ⟨rfl, rfl⟩
    rw [if_neg (by decide)]
    refine x_ifeq rfl (fun c => ?_) (fun c => absurd rfl c)
    refine x_al rfl rfl ?_
    refine x_get rfl (rw_md hn) (by exact rfl) ?_
    refine x_c rfl ?_
    refine x_iaN (j := 4) rfl (by first | exact rw_md hn | exact rw_w hn | exact rw_A hn (by exact rfl) | exact rw_B2 hn | exact rw_B3 hn | assumption) (by omega) ?_
    rw [hc]
    refine x_is (lo' := [_, _, _, _]) rfl (Nat.le_of_ble_eq_true rfl) rfl ?_
    refine x_al rfl rfl ?_
    refine x_get rfl (rw_md hn) (by exact rfl) ?_
    refine x_c rfl ?_
    refine x_dup2 rfl rfl rfl ?_
    refine x_iaN (j := 4) rfl (by first | exact rw_md hn | exact rw_w hn | exact rw_A hn (by exact rfl) | exact rw_B2 hn | exact rw_B3 hn | assumption) (by omega) ?_
    rw [hc]
    refine x_c rfl ?_
    refine x_addN (y := 1) rfl ?_
    first | refine x_iasW (j := 4) rfl hn (by omega) ?_ | refine x_iasA (j := 4) rfl hn (by exact rfl) (by omega) ?_
    refine x_c rfl ?_
    refine x_is (lo' := [_, _, _, _]) rfl (Nat.le_of_ble_eq_true rfl) rfl ?_
    have loop : ∀ k, k ≤ 64 → EX g mbOf (Ev g (d + 4)) (infoOf 198) k_X11_print (PrQ w m f A B (true, R2, R3) np) noX w.1 (rW w (upd m2 10 (-1)) (cpP np R3 (upd f 4 (nI (np + 1))) k) (udA A 1429 R3) B) 0 0 52 [some (.ref 1424), some (.int 1), some (.int (nI np)), some (.int (nI k))] [] := by
      refine downN 64 fun k hk ih => ?_
      refine x_il rfl rfl ?_
      refine x_c rfl ?_
      refine x_icgeN (y := 64) rfl (by omega) (fun c2 => ?_) (fun c2 => ?_)
      · refine x_il rfl rfl ?_
        refine x_reti rfl (Nat.le_of_ble_eq_true rfl) (Nat.le_of_ble_eq_true rfl) rfl ?_
        obtain rfl : k = 64 := by omega
        exact ⟨_, _, _, rfl, by rw [pk_un (by decide)]; exact q3, by rw [pk_un (by decide)]; exact q5, hA2, Or.inr (Or.inr ⟨rfl, c1, rfl, by rw [pk_un (by decide)]; exact q0, pk_us, rfl⟩)⟩
      refine x_al rfl rfl ?_
      refine x_get rfl (rw_md hn) (by exact rfl) ?_
      refine x_il rfl rfl ?_
      refine x_call1 (m_printAt) rfl (Nat.le_of_ble_eq_true rfl) (Or.inl (by first | exact hn | assumption)) trivial (Nat.le_of_ble_eq_true rfl) (Nat.le_of_ble_eq_true rfl) (fun E w9 hq => hq.elim) ?_
      rintro v9 w9 ⟨rfl, rfl⟩
      refine x_il rfl rfl ?_
      refine x_addN rfl ?_
      refine x_al rfl rfl ?_
      refine x_get rfl (rw_md hn) (by exact rfl) ?_
      refine x_il rfl rfl ?_
      refine x_iaN rfl (by first | exact rw_md hn | exact rw_w hn | exact rw_A hn (by exact rfl) | exact rw_B2 hn | exact rw_B3 hn | assumption) (by omega) ?_
      first | refine x_iasW rfl hn (by omega) ?_ | refine x_iasA rfl hn (by exact rfl) (by omega) ?_
      refine x_inc1 (lo' := [_, _, _, _]) rfl rfl rfl ?_
      refine x_go rfl ?_
      exact ih c2
    exact loop 0 (Nat.zero_le _)
end CALLS
