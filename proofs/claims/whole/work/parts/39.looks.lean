/-! what a lay and a card look like to the rules -/
def keepB (A A' : Nat → Nat → Int32) : Prop := ∀ q, (q < 1430 ∨ q = 1437) → A' q = A q
theorem keepB_t {M M' M'' : Nat → Nat → Int32} (h : keepB M M') (h' : keepB M' M'') : keepB M M'' := fun k h1 => (h' k h1).trans (h k h1)
theorem keepA_B {A A' : Nat → Nat → Int32} (h : keepA A A') : keepB A A' := fun q hq => h q (by omega) (by omega)
theorem keepB_u {A : Nat → Nat → Int32} {q : Nat} {h : Nat → Int32} (hq : 1430 ≤ q ∧ q ≠ 1437) : keepB A (udA A q h) := fun k hk => by unfold udA; rw [if_neg (by omega)]
/-- an answer, the state's numbers and rows changed where that is of no account -/
def ScQ (w : aW) (m f : Nat → Int32) (A : Nat → Nat → Int32) (B : Nat → Nat → Int64) (P : Option Value → (Nat → Int32) → (Nat → Nat → Int32) → Prop) : Option Value → aW → Prop := fun v w' => ∃ m' A', w' = rW w m' f A' B ∧ keepS m m' ∧ keepB A A' ∧ P v m' A'
def fc5 (a b c e h : Int32) : Nat → Int32 := fun k => if k = 0 then a else if k = 1 then b else if k = 2 then c else if k = 3 then e else h
def upTo (mt : Nat → Int32) (n : Nat) (v : Int32) : Nat → Int32 := acc (fun k h => upd h k v) mt n
section LOOKS
variable {g : aG} {d : Nat} {w : aW} {m f : Nat → Int32} {A : Nat → Nat → Int32} {B : Nat → Nat → Int64}
theorem n_looks {a b c e h : Int32} (hn : w.1 = N0) : Ev g (d + 1) 262 [.ref 1424, .int a, .int b, .int c, .int e, .int h] (rW w m f A B) (fun v w' => v = none ∧ ∃ A', w' = rW w m f A' B ∧ Fc A' (fun _ => false) (fc5 a b c e h) ∧ ∀ q, q ≠ 1434 → q ≠ 1435 → A' q = A q) noX := by
  refine ev_X11_looks ?_ (Nat.le_of_ble_eq_true rfl)
  refine x_lo (lo' := [some (.ref 1424), some (.int a), some (.int b), some (.int c), some (.int e), some (.int h), none]) rfl ?_
  refine x_c rfl ?_
  refine x_is (lo' := [_, _, _, _, _, _, _]) rfl (Nat.le_of_ble_eq_true rfl) rfl ?_
  have loop : ∀ k, k ≤ 4 → ∀ tg, (∀ j, j < k → tg j = 0) → EX g mbOf (Ev g (d)) (infoOf 262) k_X11_looks (fun v w' => v = none ∧ ∃ A', w' = rW w m f A' B ∧ Fc A' (fun _ => false) (fc5 a b c e h) ∧ ∀ q, q ≠ 1434 → q ≠ 1435 → A' q = A q) noX w.1 (rW w m f (udA A 1434 tg) B) 0 0 2 [some (.ref 1424), some (.int a), some (.int b), some (.int c), some (.int e), some (.int h), some (.int (nI k))] [] := by
    refine downN 4 fun k hk ih => ?_
    intro tg ht
    refine x_il rfl rfl ?_
    refine x_c rfl ?_
    refine x_icgeN (y := 4) rfl (by omega) (fun c => ?_) (fun c => ?_)
    · refine x_al rfl rfl ?_
      refine x_get rfl (rw_md hn) (by exact rfl) ?_
      refine x_c rfl ?_
      refine x_il rfl rfl ?_
      first | refine x_iasW (j := 0) rfl hn (by omega) ?_ | refine x_iasA (j := 0) rfl hn (by exact rfl) (by omega) ?_
      refine x_al rfl rfl ?_
      refine x_get rfl (rw_md hn) (by exact rfl) ?_
      refine x_c rfl ?_
      refine x_il rfl rfl ?_
      first | refine x_iasW (j := 1) rfl hn (by omega) ?_ | refine x_iasA (j := 1) rfl hn (by exact rfl) (by omega) ?_
      refine x_al rfl rfl ?_
      refine x_get rfl (rw_md hn) (by exact rfl) ?_
      refine x_c rfl ?_
      refine x_il rfl rfl ?_
      first | refine x_iasW (j := 2) rfl hn (by omega) ?_ | refine x_iasA (j := 2) rfl hn (by exact rfl) (by omega) ?_
      refine x_al rfl rfl ?_
      refine x_get rfl (rw_md hn) (by exact rfl) ?_
      refine x_c rfl ?_
      refine x_il rfl rfl ?_
      first | refine x_iasW (j := 3) rfl hn (by omega) ?_ | refine x_iasA (j := 3) rfl hn (by exact rfl) (by omega) ?_
      refine x_al rfl rfl ?_
      refine x_get rfl (rw_md hn) (by exact rfl) ?_
      refine x_c rfl ?_
      refine x_il rfl rfl ?_
      first | refine x_iasW (j := 4) rfl hn (by omega) ?_ | refine x_iasA (j := 4) rfl hn (by exact rfl) (by omega) ?_
      refine x_retv rfl (Nat.le_of_ble_eq_true rfl) (Nat.le_of_ble_eq_true rfl) rfl ?_
      refine ⟨rfl, _, rfl, ⟨fun k h4 => ?_, fun k h5 => ?_⟩, fun q h1 h2 => ?_⟩
      · show tg k = 0
        exact ht k (by omega)
      · rcases (show k = 0 ∨ k = 1 ∨ k = 2 ∨ k = 3 ∨ k = 4 by omega) with rfl | rfl | rfl | rfl | rfl <;> rfl
      · unfold udA
        rw [if_neg h2, if_neg h2, if_neg h2, if_neg h2, if_neg h2, if_neg h1]
    refine x_al rfl rfl ?_
    refine x_get rfl (rw_md hn) (by exact rfl) ?_
    refine x_il rfl rfl ?_
    refine x_c rfl ?_
    first | refine x_basA rfl hn (by exact rfl) (by omega) ?_ | refine x_zasA rfl hn (by exact rfl) (by omega) (by first | rfl | assumption) ?_
    refine x_inc1 (lo' := [_, _, _, _, _, _, _]) rfl rfl rfl ?_
    refine x_go rfl ?_
    rw [udA_udA]
    refine ih c _ (fun j hj => ?_)
    by_cases e : j = k
    · subst e; exact pk_us
    · rw [pk_un e]; exact ht j (by omega)
  have := loop 0 (by decide) (A 1434) (fun j hj => absurd hj (Nat.not_lt_zero _))
  rw [udA_self] at this
  exact this
/-- the verdict's number: 2 same, 1 doubt, 0 none -/
def judF (f : Nat → Int32) (o : Option Nat) (tg : Nat → Bool) (fc : Nat → Int32) : Int32 := if 0 ≤ firstF f o 0 tg fc then 2 else if 0 ≤ firstF f o 1 tg fc then 1 else 0
theorem n_judges {day : Int32} {n : Nat} {tg : Nat → Bool} {fc : Nat → Int32} (hT : WT f n) (hF : Fc A tg fc) (hn : w.1 = N0) : Ev g (d + 5) 264 [.ref 1424, .int day] (rW w m f A B) (fun v w' => v = some (.int (judF f (bestT f day n) tg fc)) ∧ ∃ mt, w' = rW w m f (udA A 1436 mt) B) noX := by
  refine ev_X11_judges ?_ (Nat.le_of_ble_eq_true rfl)
  refine x_lo (lo' := [some (.ref 1424), some (.int day)]) rfl ?_
  refine x_al rfl rfl ?_
  refine x_al rfl rfl ?_
  refine x_il rfl rfl ?_
  refine x_call2 (n_textOf hT.1 hT.2.1 hn) rfl (Nat.le_of_ble_eq_true rfl) (Or.inl (by first | exact hn | assumption)) (rcv_at (by first | exact rw_md hn | exact rw_w hn | exact rw_A hn (by exact rfl) | exact rw_B2 hn | exact rw_B3 hn | assumption) (by decide) (by decide)) (Nat.le_of_ble_eq_true rfl) (Nat.le_of_ble_eq_true rfl) (fun E w9 hq => hq.elim) ?_
  rintro v9 w9 ⟨rfl, rfl⟩
  refine x_c rfl ?_
  refine x_call3 (n_firstOf (hT.best day) hF hn) rfl (Nat.le_of_ble_eq_true rfl) (Or.inl (by first | exact hn | assumption)) (rcv_at (by first | exact rw_md hn | exact rw_w hn | exact rw_A hn (by exact rfl) | exact rw_B2 hn | exact rw_B3 hn | assumption) (by decide) (by decide)) (Nat.le_of_ble_eq_true rfl) (Nat.le_of_ble_eq_true rfl) (fun E w9 hq => hq.elim) ?_
  rintro v9 w9 ⟨rfl, mt, rfl⟩
  refine x_iflt rfl (fun c1 => ?_) (fun c1 => ?_)
  rotate_left
  · refine x_c rfl ?_
    refine x_go rfl ?_
    refine x_reti rfl (Nat.le_of_ble_eq_true rfl) (Nat.le_of_ble_eq_true rfl) rfl ?_
    exact ⟨by unfold judF; rw [if_pos (Int32.not_lt.mp c1)], mt, rfl⟩
  refine x_al rfl rfl ?_
  refine x_al rfl rfl ?_
  refine x_il rfl rfl ?_
  refine x_call2 (n_textOf hT.1 hT.2.1 hn) rfl (Nat.le_of_ble_eq_true rfl) (Or.inl (by first | exact hn | assumption)) (rcv_at (by first | exact rw_md hn | exact rw_w hn | exact rw_A hn (by exact rfl) | exact rw_B2 hn | exact rw_B3 hn | assumption) (by decide) (by decide)) (Nat.le_of_ble_eq_true rfl) (Nat.le_of_ble_eq_true rfl) (fun E w9 hq => hq.elim) ?_
  rintro v9 w9 ⟨rfl, rfl⟩
  refine x_c rfl ?_
  refine x_call3 (n_firstOf (hT.best day) hF.mt hn) rfl (Nat.le_of_ble_eq_true rfl) (Or.inl (by first | exact hn | assumption)) (rcv_at (by first | exact rw_md hn | exact rw_w hn | exact rw_A hn (by exact rfl) | exact rw_B2 hn | exact rw_B3 hn | assumption) (by decide) (by decide)) (Nat.le_of_ble_eq_true rfl) (Nat.le_of_ble_eq_true rfl) (fun E w9 hq => hq.elim) ?_
  rintro v9 w9 ⟨rfl, mt2, rfl⟩
  rw [udA_udA]
  refine x_iflt rfl (fun c2 => ?_) (fun c2 => ?_)
  rotate_left
  · refine x_c rfl ?_
    refine x_go rfl ?_
    refine x_reti rfl (Nat.le_of_ble_eq_true rfl) (Nat.le_of_ble_eq_true rfl) rfl ?_
    exact ⟨by unfold judF; rw [if_neg (Int32.not_le.mpr c1), if_pos (Int32.not_lt.mp c2)], mt2, rfl⟩
  refine x_c rfl ?_
  refine x_reti rfl (Nat.le_of_ble_eq_true rfl) (Nat.le_of_ble_eq_true rfl) rfl ?_
  exact ⟨by unfold judF; rw [if_neg (Int32.not_le.mpr c1), if_neg (Int32.not_le.mpr c2)], mt2, rfl⟩
def tgG (b : Bool) : Nat → Bool := fun k => k == 0 && b
theorem n_looksAtLay {k p ours th : Nat} {day : Int32} (hk : k < 20) (hp : p < 60) (ho : f (5826 + 39 * k + 6) = nI ours) (ht : f (5 + 97 * p + 64) = nI th) (ho8 : ours ≤ 8) (hm8 : th ≤ 8) (hn : w.1 = N0) : Ev g (d + 14) 263 [.ref 1424, .int (nI k), .int (nI p), .int day] (rW w m f A B) (ScQ w m f A B (fun v m' A' => v = none ∧ BM m' (layM f k p ours th) ∧ Fc A' (tgG (decide (f (5826 + 39 * k + 5) = 1))) (fc5 (layM f k p ours th).1 (layM f k p ours th).2.1 (nI ours) (clsF f p) (day - f (5826 + 39 * k))))) noX := by
  refine ev_X11_looksAtLay ?_ (Nat.le_of_ble_eq_true rfl)
  refine x_lo (lo' := [some (.ref 1424), some (.int (nI k)), some (.int (nI p)), some (.int day)]) rfl ?_
  refine x_al rfl rfl ?_
  refine x_il rfl rfl ?_
  refine x_il rfl rfl ?_
  refine x_call3 (n_laysMark hk hp ho ht ho8 hm8 hn) rfl (Nat.le_of_ble_eq_true rfl) (Or.inl (by first | exact hn | assumption)) (rcv_at (by first | exact rw_md hn | exact rw_w hn | exact rw_A hn (by exact rfl) | exact rw_B2 hn | exact rw_B3 hn | assumption) (by decide) (by decide)) (Nat.le_of_ble_eq_true rfl) (Nat.le_of_ble_eq_true rfl) (fun E w9 hq => hq.elim) ?_
  rintro v9 w9 ⟨rfl, M', A2, rfl, hM', hk', hA'⟩
  refine x_al rfl rfl ?_
  refine x_al rfl rfl ?_
  refine x_get rfl (rw_md hn) (by exact rfl) ?_
  refine x_al rfl rfl ?_
  refine x_get rfl (rw_md hn) (by exact rfl) ?_
  refine x_al rfl rfl ?_
  refine x_get rfl (rw_md hn) (by exact rfl) ?_
  refine x_il rfl rfl ?_
  refine x_c rfl ?_
  rw [hM'.1, hM'.2.1]
  refine x_call2 (m_markAt (k := 6)) rfl (Nat.le_of_ble_eq_true rfl) (Or.inl (by first | exact hn | assumption)) trivial (Nat.le_of_ble_eq_true rfl) (Nat.le_of_ble_eq_true rfl) (fun E w9 hq => hq.elim) ?_
  rintro v9 w9 ⟨rfl, rfl⟩
  refine x_iaN rfl (by first | exact rw_md hn | exact rw_w hn | exact rw_A hn (by exact rfl) | exact rw_B2 hn | exact rw_B3 hn | assumption) (by omega) ?_
  refine x_al rfl rfl ?_
  refine x_il rfl rfl ?_
  rw [ho]
  refine x_call2 (n_classOfPrint hp hn) rfl (Nat.le_of_ble_eq_true rfl) (Or.inl (by first | exact hn | assumption)) (rcv_at (by first | exact rw_md hn | exact rw_w hn | exact rw_A hn (by exact rfl) | exact rw_B2 hn | exact rw_B3 hn | assumption) (by decide) (by decide)) (Nat.le_of_ble_eq_true rfl) (Nat.le_of_ble_eq_true rfl) (fun E w9 hq => hq.elim) ?_
  rintro v9 w9 ⟨rfl, rfl⟩
  refine x_il rfl rfl ?_
  refine x_al rfl rfl ?_
  refine x_get rfl (rw_md hn) (by exact rfl) ?_
  refine x_il rfl rfl ?_
  refine x_c rfl ?_
  refine x_call2 (m_markAt (k := 0)) rfl (Nat.le_of_ble_eq_true rfl) (Or.inl (by first | exact hn | assumption)) trivial (Nat.le_of_ble_eq_true rfl) (Nat.le_of_ble_eq_true rfl) (fun E w9 hq => hq.elim) ?_
  rintro v9 w9 ⟨rfl, rfl⟩
  refine x_iaN rfl (by first | exact rw_md hn | exact rw_w hn | exact rw_A hn (by exact rfl) | exact rw_B2 hn | exact rw_B3 hn | assumption) (by omega) ?_
  refine x_sub rfl ?_
  refine x_call6 (n_looks hn) rfl (Nat.le_of_ble_eq_true rfl) (Or.inl (by first | exact hn | assumption)) (rcv_at (by first | exact rw_md hn | exact rw_w hn | exact rw_A hn (by exact rfl) | exact rw_B2 hn | exact rw_B3 hn | assumption) (by decide) (by decide)) (Nat.le_of_ble_eq_true rfl) (Nat.le_of_ble_eq_true rfl) (fun E w9 hq => hq.elim) ?_
  rintro v9 w9 ⟨rfl, A3, rfl, hF3, hA3⟩
  refine x_al rfl rfl ?_
  refine x_get rfl (rw_md hn) (by exact rfl) ?_
  refine x_c rfl ?_
  refine x_al rfl rfl ?_
  refine x_get rfl (rw_md hn) (by exact rfl) ?_
  refine x_il rfl rfl ?_
  refine x_c rfl ?_
  have fin : ∀ b : Bool, (b = true ↔ f (5826 + 39 * k + 5) = 1) → ScQ w m f A B (fun v m' A' => v = none ∧ BM m' (layM f k p ours th) ∧ Fc A' (tgG (decide (f (5826 + 39 * k + 5) = 1))) (fc5 (layM f k p ours th).1 (layM f k p ours th).2.1 (nI ours) (clsF f p) (day - f (5826 + 39 * k)))) none (rW w M' f (udA A3 1434 (upd (A3 1434) 0 (bI b))) B) := by
    intro b hb
    have hd : decide (f (5826 + 39 * k + 5) = 1) = b := by cases b <;> simp_all
    rw [hd]
    refine ⟨M', _, rfl, hk', fun q hq => ?_, rfl, hM', fun j hj => ?_, hF3.2⟩
    · unfold udA
      rw [if_neg (by omega), hA3 q (by omega) (by omega)]
      exact keepA_B hA' q hq
    · show upd (A3 1434) 0 (bI b) j = _
      by_cases e : j = 0
      · subst e; rw [pk_us]; cases b <;> rfl
      · rw [pk_un e, hF3.1 j hj]
        unfold tgG
        rw [show (j == 0) = false by simp [e]]
        rfl
  refine x_call2 (m_markAt (k := 5)) rfl (Nat.le_of_ble_eq_true rfl) (Or.inl (by first | exact hn | assumption)) trivial (Nat.le_of_ble_eq_true rfl) (Nat.le_of_ble_eq_true rfl) (fun E w9 hq => hq.elim) ?_
  rintro v9 w9 ⟨rfl, rfl⟩
  refine x_iaN rfl (by first | exact rw_md hn | exact rw_w hn | exact rw_A hn (by exact rfl) | exact rw_B2 hn | exact rw_B3 hn | assumption) (by omega) ?_
  refine x_c rfl ?_
  refine x_icne rfl (fun c1 => ?_) (fun c1 => ?_)
  rotate_left
  · refine x_c rfl ?_
    refine x_go rfl ?_
    first | refine x_basA (j := 0) rfl hn (by exact rfl) (by omega) ?_ | refine x_zasA (j := 0) rfl hn (by exact rfl) (by omega) (by first | rfl | assumption) ?_
    refine x_retv rfl (Nat.le_of_ble_eq_true rfl) (Nat.le_of_ble_eq_true rfl) rfl ?_
    exact fin true (by constructor; intro _; exact c1; intro _; rfl)
  refine x_c rfl ?_
  first | refine x_basA (j := 0) rfl hn (by exact rfl) (by omega) ?_ | refine x_zasA (j := 0) rfl hn (by exact rfl) (by omega) (by first | rfl | assumption) ?_
  refine x_retv rfl (Nat.le_of_ble_eq_true rfl) (Nat.le_of_ble_eq_true rfl) rfl ?_
  exact fin false (by constructor; intro h; cases h; intro h; exact absurd h c1)
/-- card c at day: tags child, cleared, guilty; the age -/
def tgC (f : Nat → Int32) (c : Nat) (day : Int32) : Nat → Bool := fun k => match k with
  | 0 => false
  | k + 1 => decide (0 ≤ f (6607 + 26 * c + (3 + k)) ∧ f (6607 + 26 * c + (3 + k)) ≤ day)
theorem n_of {c k : Nat} (hc : 26 * c + k < 416) (hn : w.1 = N0) : Ev g (d + 2) 232 [.ref 1424, .int (nI c), .int (nI k)] (rW w m f A B) (RetQ (f (6607 + 26 * c + k)) (rW w m f A B)) noX := m_of (rw_old hn) hc hn
theorem n_looksAtCard {c : Nat} {day : Int32} (hc : c < 16) (hn : w.1 = N0) : Ev g (d + 3) 267 [.ref 1424, .int (nI c), .int day] (rW w m f A B) (fun v w' => v = none ∧ ∃ A', w' = rW w m f A' B ∧ Fc A' (tgC f c day) (fc5 0 0 0 0 (day - f (6607 + 26 * c + 1))) ∧ ∀ q, q ≠ 1434 → q ≠ 1435 → A' q = A q) noX := by
  refine ev_X11_looksAtCard ?_ (Nat.le_of_ble_eq_true rfl)
  refine x_lo (lo' := [some (.ref 1424), some (.int (nI c)), some (.int day), none]) rfl ?_
  refine x_al rfl rfl ?_
  refine x_c rfl ?_
  refine x_c rfl ?_
  refine x_c rfl ?_
  refine x_c rfl ?_
  refine x_il rfl rfl ?_
  refine x_al rfl rfl ?_
  refine x_il rfl rfl ?_
  refine x_c rfl ?_
  refine x_call3 (n_of (k := 1) (by omega) hn) rfl (Nat.le_of_ble_eq_true rfl) (Or.inl (by first | exact hn | assumption)) (rcv_at (by first | exact rw_md hn | exact rw_w hn | exact rw_A hn (by exact rfl) | exact rw_B2 hn | exact rw_B3 hn | assumption) (by decide) (by decide)) (Nat.le_of_ble_eq_true rfl) (Nat.le_of_ble_eq_true rfl) (fun E w9 hq => hq.elim) ?_
  rintro v9 w9 ⟨rfl, rfl⟩
  refine x_sub rfl ?_
  refine x_call6 (n_looks hn) rfl (Nat.le_of_ble_eq_true rfl) (Or.inl (by first | exact hn | assumption)) (rcv_at (by first | exact rw_md hn | exact rw_w hn | exact rw_A hn (by exact rfl) | exact rw_B2 hn | exact rw_B3 hn | assumption) (by decide) (by decide)) (Nat.le_of_ble_eq_true rfl) (Nat.le_of_ble_eq_true rfl) (fun E w9 hq => hq.elim) ?_
  rintro v9 w9 ⟨rfl, A3, rfl, hF3, hA3⟩
  refine x_c rfl ?_
  refine x_is (lo' := [_, _, _, _]) rfl (Nat.le_of_ble_eq_true rfl) rfl ?_
  have loop : ∀ k, k ≤ 3 → ∀ tg, (∀ j, j < 4 → tg j = if j ≤ k then bI (tgC f c day j) else 0) → EX g mbOf (Ev g (d + 2)) (infoOf 267) k_X11_looksAtCard (fun v w' => v = none ∧ ∃ A', w' = rW w m f A' B ∧ Fc A' (tgC f c day) (fc5 0 0 0 0 (day - f (6607 + 26 * c + 1))) ∧ ∀ q, q ≠ 1434 → q ≠ 1435 → A' q = A q) noX w.1 (rW w m f (udA A3 1434 tg) B) 0 0 14 [some (.ref 1424), some (.int (nI c)), some (.int day), some (.int (nI k))] [] := by
    refine downN 3 fun k hk ih => ?_
    intro tg ht
    refine x_il rfl rfl ?_
    refine x_c rfl ?_
    refine x_icgeN (y := 3) rfl (by omega) (fun c1 => ?_) (fun c1 => ?_)
    · refine x_retv rfl (Nat.le_of_ble_eq_true rfl) (Nat.le_of_ble_eq_true rfl) rfl ?_
      refine ⟨rfl, _, rfl, ⟨fun j hj => ?_, hF3.2⟩, fun q h1 h2 => ?_⟩
      · show tg j = _
        rw [ht j hj, if_pos (by omega)]
      · unfold udA
        rw [if_neg h1]
        exact hA3 q h1 h2
    refine x_al rfl rfl ?_
    refine x_get rfl (rw_md hn) (by exact rfl) ?_
    refine x_c rfl ?_
    refine x_il rfl rfl ?_
    refine x_addN (x := 1) rfl ?_
    refine x_al rfl rfl ?_
    refine x_il rfl rfl ?_
    refine x_c rfl ?_
    refine x_il rfl rfl ?_
    refine x_addN (x := 3) rfl ?_
    have fin : ∀ b : Bool, (b = true ↔ 0 ≤ f (6607 + 26 * c + (3 + k)) ∧ f (6607 + 26 * c + (3 + k)) ≤ day) → EX g mbOf (Ev g (d + 2)) (infoOf 267) k_X11_looksAtCard (fun v w' => v = none ∧ ∃ A', w' = rW w m f A' B ∧ Fc A' (tgC f c day) (fc5 0 0 0 0 (day - f (6607 + 26 * c + 1))) ∧ ∀ q, q ≠ 1434 → q ≠ 1435 → A' q = A q) noX w.1 (rW w m f (udA A3 1434 tg) B) 0 0 40 [some (.ref 1424), some (.int (nI c)), some (.int day), some (.int (nI k))] [.int (bI b), .int (nI (1 + k)), .ref 1434] := by
      intro b hb
      have hz := bI_01 b
      first | refine x_basA rfl hn (by exact rfl) (by omega) ?_ | refine x_zasA rfl hn (by exact rfl) (by omega) (by first | rfl | assumption) ?_
      rw [udA_udA]
      refine x_inc1 (lo' := [_, _, _, _]) rfl rfl rfl ?_
      refine x_go rfl ?_
      refine ih c1 _ (fun j hj => ?_)
      show upd tg (1 + k) (bI b) j = _
      by_cases e : j = 1 + k
      · subst e
        rw [pk_us, if_pos (by omega), show 1 + k = k + 1 by omega]
        have : tgC f c day (k + 1) = b := by
          show decide _ = b
          cases b
          · rw [decide_eq_false (fun h => absurd (hb.mpr h) (by decide))]
          · rw [decide_eq_true (hb.mp rfl)]
        rw [this]
      · rw [pk_un e, ht j hj]
        by_cases h2 : j ≤ k
        · rw [if_pos h2, if_pos (by omega)]
        · rw [if_neg h2, if_neg (by omega)]
    refine x_call3 (n_of (by omega) hn) rfl (Nat.le_of_ble_eq_true rfl) (Or.inl (by first | exact hn | assumption)) (rcv_at (by first | exact rw_md hn | exact rw_w hn | exact rw_A hn (by exact rfl) | exact rw_B2 hn | exact rw_B3 hn | assumption) (by decide) (by decide)) (Nat.le_of_ble_eq_true rfl) (Nat.le_of_ble_eq_true rfl) (fun E w9 hq => hq.elim) ?_
    rintro v9 w9 ⟨rfl, rfl⟩
    refine x_iflt rfl (fun c2 => ?_) (fun c2 => ?_)
    · refine x_c rfl ?_
      exact fin false (by constructor; intro h; cases h; intro h; exact absurd c2 (Int32.not_lt.mpr h.1))
    refine x_al rfl rfl ?_
    refine x_il rfl rfl ?_
    refine x_c rfl ?_
    refine x_il rfl rfl ?_
    refine x_addN (x := 3) rfl ?_
    refine x_call3 (n_of (by omega) hn) rfl (Nat.le_of_ble_eq_true rfl) (Or.inl (by first | exact hn | assumption)) (rcv_at (by first | exact rw_md hn | exact rw_w hn | exact rw_A hn (by exact rfl) | exact rw_B2 hn | exact rw_B3 hn | assumption) (by decide) (by decide)) (Nat.le_of_ble_eq_true rfl) (Nat.le_of_ble_eq_true rfl) (fun E w9 hq => hq.elim) ?_
    rintro v9 w9 ⟨rfl, rfl⟩
    refine x_il rfl rfl ?_
    refine x_icgt rfl (fun c3 => ?_) (fun c3 => ?_)
    · refine x_c rfl ?_
      exact fin false (by constructor; intro h; cases h; intro h; exact absurd c3 (Int32.not_lt.mpr h.2))
    refine x_c rfl ?_
    refine x_go rfl ?_
    exact fin true (by constructor; intro _; exact ⟨Int32.not_lt.mp c2, Int32.not_lt.mp c3⟩; intro _; rfl)
  have := loop 0 (by decide) (A3 1434) (fun j hj => by
    rw [hF3.1 j hj]
    by_cases e : j ≤ 0
    · rw [if_pos e, show j = 0 by omega]; rfl
    · rw [if_neg e]; rfl)
  rw [udA_self] at this
  exact this
end LOOKS
