/-! reading of a whole text: mset_ -/
/-- a rule: sort, number, start and end of its steps -/
abbrev RW4 : Type := Nat × Int32 × Nat × Nat
abbrev TR : Type := Bool × Nat × List RW4 × List (Int32 × Int32)
def pRules (t : Nat → Int32) (en : Nat) : Nat → Nat → Nat → List RW4 → List (Int32 × Int32) → TR
  | 0, _, p, _, _ => (false, p, [], [])
  | k + 1, n, p, rows, steps => if (pRule t en n p).1 = true then (if wS t en (pRule t en n p).2.1 = en then (true, en, rows ++ [((sortW t en p).getD 0, nrW t en p ((sortW t en p).getD 0), steps.length, steps.length + (pRule t en n p).2.2.2.length)], steps ++ (pRule t en n p).2.2.2) else if 59 ≤ t (wS t en (pRule t en n p).2.1) ∧ t (wS t en (pRule t en n p).2.1) ≤ 59 then pRules t en k (n + 1) (wS t en (pRule t en n p).2.1 + 1) (rows ++ [((sortW t en p).getD 0, nrW t en p ((sortW t en p).getD 0), steps.length, steps.length + (pRule t en n p).2.2.2.length)]) (steps ++ (pRule t en n p).2.2.2) else (false, wS t en (pRule t en n p).2.1, [], [])) else (false, (pRule t en n p).2.2.1, [], [])
/-- the text that the tape spells -/
def pText (t : Nat → Int32) (en p : Nat) : TR := if wS t en p = en then (true, en, [], []) else pRules t en 13 0 (wS t en p) [] []
def rowsAt (f : Nat → Int32) (rows : List RW4) : Prop := ∀ n r, rows[n]? = some r → f (21328 + 4 * n) = nI r.1 ∧ f (21328 + 4 * n + 1) = r.2.1 ∧ f (21328 + 4 * n + 2) = nI r.2.2.1 ∧ f (21328 + 4 * n + 3) = nI r.2.2.2
/-- what the reading of a text leaves -/
def XQ (w : aW) (m f : Nat → Int32) (A : Nat → Nat → Int32) (B : Nat → Nat → Int64) (R : TR) : Option Value → aW → Prop := fun v w' => v = some (.int (if R.1 = true then nI R.2.2.1.length else -1)) ∧ ∃ m' f', w' = rW w m' f' A B ∧ m' 8 = nI R.2.1 ∧ (∀ k, k ≠ 6 → k ≠ 8 → k ≠ 9 → k ≠ 23 → m' k = m k) ∧ (∀ i, i < 21328 → f' i = f i) ∧ (R.1 = true → R.2.2.1.length ≤ 12 ∧ rowsAt f' R.2.2.1 ∧ ∀ i, 21376 ≤ i → f' i = wrL f 0 R.2.2.2 i)
theorem rows_nil (f : Nat → Int32) : rowsAt f [] := fun n r h => by simp at h
section TEXT
variable {g : aG} {d : Nat} {w : aW} {m f : Nat → Int32} {A : Nat → Nat → Int32} {B : Nat → Nat → Int64} {pt en : Nat}
theorem n_readAll {t : Nat → Int32} {p : Nat} (hT : HTx g) (ht : A 1427 = t) (hTp : Tp m p en) (hn : w.1 = N0) : Ev g (d + 32) 255 [.ref 1424] (rW w m f A B) (XQ w m f A B (pText t en p)) noX := by
  have hen := hTp.2.2.2
  generalize hP : pText t en p = P
  unfold pText at hP
  have e1 := wS_ge (t := t) (en := en) (p := p)
  have e4 := wS_le (t := t) hTp.2.2.1
  refine ev_X11_readAll ?_ (Nat.le_of_ble_eq_true rfl)
  refine x_lo (lo' := [some (.ref 1424), none]) rfl ?_
  refine x_al rfl rfl ?_
  refine x_c rfl ?_
  refine x_putM rfl hn rfl rfl rfl (mset_23 _ _) ?_
  refine x_al rfl rfl ?_
  have hTp0 : Tp (upd m 23 0) p en := ⟨by rw [pk_un (by decide)]; exact hTp.1, by rw [pk_un (by decide)]; exact hTp.2.1, hTp.2.2⟩
  have hk0 : ∀ x y k, k ≠ 6 → k ≠ 8 → k ≠ 9 → k ≠ 23 → tp (upd m 23 0) x y k = m k := fun x y k h1 h2 h3 h4 => (tp_o ⟨h1, h2⟩).trans (pk_un h4)
  refine x_call1 (n_blanks hTp0 hn) rfl (Nat.le_of_ble_eq_true rfl) (Or.inl (by first | exact hn | assumption)) (rcv_at (by first | exact rw_md hn | exact rw_w hn | exact rw_A hn (by exact rfl) | exact rw_B2 hn | exact rw_B3 hn | assumption) (by decide) (by decide)) (Nat.le_of_ble_eq_true rfl) (Nat.le_of_ble_eq_true rfl) (fun E w9 hq => hq.elim) ?_
  rintro v9 w9 ⟨rfl, rfl⟩
  refine x_al rfl rfl ?_
  refine x_get rfl (rw_md hn) (by exact rfl) ?_
  refine x_al rfl rfl ?_
  refine x_get rfl (rw_md hn) (by exact rfl) ?_
  rw [ht, tp_6, tp_o (by decide), hTp0.2.1, show runs t en 32 32 p = wS t en p from rfl]
  refine x_icneN rfl (by omega) (fun c0 => ?_) (fun c0 => ?_)
  rotate_left
  · refine x_c rfl ?_
    refine x_reti rfl (Nat.le_of_ble_eq_true rfl) (Nat.le_of_ble_eq_true rfl) rfl ?_
    rw [if_pos c0] at hP
    subst hP
    exact ⟨rfl, _, f, rfl, by rw [tp_8]; exact congrArg nI c0, hk0 _ _, fun _ _ => rfl, fun _ => ⟨Nat.zero_le _, rows_nil f, fun _ _ => rfl⟩⟩
  refine x_c rfl ?_
  refine x_is (lo' := [_, _]) rfl (Nat.le_of_ble_eq_true rfl) rfl ?_
  rw [if_neg c0] at hP
  have loop : ∀ k n p1 rows steps m1 f1, n + k = 13 → n ≤ 12 → rows.length = n → Tp m1 p1 en → steps.length ≤ p1 → m1 23 = nI steps.length → (∀ k, k ≠ 6 → k ≠ 8 → k ≠ 9 → k ≠ 23 → m1 k = m k) → (∀ i, i < 21328 → f1 i = f i) → rowsAt f1 rows → (∀ i, 21376 ≤ i → f1 i = wrL f 0 steps i) → pRules t en k n p1 rows steps = P → EX g mbOf (Ev g (d + 31)) (infoOf 255) k_X11_readAll (XQ w m f A B P) noX w.1 (rW w m1 f1 A B) 0 0 14 [some (.ref 1424), some (.int (nI n))] [] := by
    intro k
    induction k with
    | zero => intro n p1 rows steps m1 f1 h1 h2; omega
    | succ k ih =>
      intro n p1 rows steps m1 f1 hnk hn12 hrl hT1 hsl h23 hmk hf0 hrows hcode hR
      unfold pRules at hR
      refine x_al rfl rfl ?_
      refine x_il rfl rfl ?_
      refine x_call2 (n_readRule hT ht hT1 h23 hsl hn12 hn) rfl (Nat.le_of_ble_eq_true rfl) (Or.inl (by first | exact hn | assumption)) (rcv_at (by first | exact rw_md hn | exact rw_w hn | exact rw_A hn (by exact rfl) | exact rw_B2 hn | exact rw_B3 hn | assumption) (by decide) (by decide)) (Nat.le_of_ble_eq_true rfl) (Nat.le_of_ble_eq_true rfl) (fun E w9 hq => hq.elim) ?_
      rintro v9 w9 ⟨rfl, m2, f2, rfl, d1, d2, d3, d4⟩
      have hm2 : ∀ k, k ≠ 6 → k ≠ 8 → k ≠ 9 → k ≠ 23 → m2 k = m k := fun k h1 h2 h3 h4 => (d2 k h1 h2 h3 h4).trans (hmk k h1 h2 h3 h4)
      have hf2 : ∀ i, i < 21328 → f2 i = f i := fun i hi => (d3 i hi).trans (hf0 i hi)
      cases hok : (pRule t en n p1).1 with
      | false =>
        rw [if_neg (by rw [hok]; decide)] at hR
        subst hR
        refine x_ifne rfl (fun c => absurd rfl c) (fun c => ?_)
        refine x_c rfl ?_
        refine x_reti rfl (Nat.le_of_ble_eq_true rfl) (Nat.le_of_ble_eq_true rfl) rfl ?_
        exact ⟨rfl, m2, f2, rfl, d1, hm2, hf2, fun h => absurd h (by show ¬ false = true; decide)⟩
      | true =>
        rw [if_pos hok] at hR
        obtain ⟨k1, k2, s, hso, k3, k4, k5, k6, k7, k8⟩ := d4 hok
        have hb := pRule_b hT1.2.2.1 hok
        rw [hso] at hR
        dsimp only [Option.getD_some] at hR
        generalize hL : (pRule t en n p1).2.2.2 = L at *
        generalize (pRule t en n p1).2.1 = q at *
        have hT2 : Tp m2 q en := ⟨k1, (hm2 7 (by decide) (by decide) (by decide) (by decide)).trans hTp.2.1, hb.2.1, hen⟩
        have g1 := wS_ge (t := t) (en := en) (p := q)
        have g2 := wS_le (t := t) hb.2.1
        have hmk3 : ∀ x y k, k ≠ 6 → k ≠ 8 → k ≠ 9 → k ≠ 23 → tp m2 x y k = m k := fun x y k h1 h2 h3 h4 => (tp_o ⟨h1, h2⟩).trans (hm2 k h1 h2 h3 h4)
        have hrows2 : rowsAt f2 (rows ++ [(s, nrW t en p1 s, steps.length, steps.length + L.length)]) := by
          intro j r hj
          rcases Nat.lt_or_ge j rows.length with hjl | hjl
          · rw [List.getElem?_append_left hjl] at hj
            obtain ⟨a1, a2, a3, a4⟩ := hrows j r hj
            rw [k3 _ (by omega), k3 _ (by omega), k3 _ (by omega), k3 _ (by omega)]
            exact ⟨a1, a2, a3, a4⟩
          · rw [List.getElem?_append_right hjl] at hj
            have ej : j = n := by
              rcases Nat.eq_zero_or_pos (j - rows.length) with h | h
              · omega
              · rw [List.getElem?_eq_none (by simp; omega)] at hj; cases hj
            subst ej
            rw [show j - rows.length = 0 by omega] at hj
            cases hj
            exact ⟨k4, k5, k6, k7⟩
        have hcode2 : ∀ i, 21376 ≤ i → f2 i = wrL f 0 (steps ++ L) i := by
          intro i hi
          rw [k8 i hi, wrL_app, Nat.zero_add]
          exact wrL_row _ _ _ _ hcode i hi
        refine x_ifne rfl (fun c => ?_) (fun c => absurd c (show ¬ (1 : Int32) = 0 by decide))
        refine x_al rfl rfl ?_
        refine x_call1 (n_blanks hT2 hn) rfl (Nat.le_of_ble_eq_true rfl) (Or.inl (by first | exact hn | assumption)) (rcv_at (by first | exact rw_md hn | exact rw_w hn | exact rw_A hn (by exact rfl) | exact rw_B2 hn | exact rw_B3 hn | assumption) (by decide) (by decide)) (Nat.le_of_ble_eq_true rfl) (Nat.le_of_ble_eq_true rfl) (fun E w9 hq => hq.elim) ?_
        rintro v9 w9 ⟨rfl, rfl⟩
        refine x_al rfl rfl ?_
        refine x_get rfl (rw_md hn) (by exact rfl) ?_
        refine x_al rfl rfl ?_
        refine x_get rfl (rw_md hn) (by exact rfl) ?_
        rw [ht, tp_6, tp_o (by decide), hT2.2.1, show runs t en 32 32 q = wS t en q from rfl]
        refine x_icneN rfl (by omega) (fun c1 => ?_) (fun c1 => ?_)
        rotate_left
        · refine x_il rfl rfl ?_
          refine x_c rfl ?_
          refine x_addN (y := 1) rfl ?_
          refine x_reti rfl (Nat.le_of_ble_eq_true rfl) (Nat.le_of_ble_eq_true rfl) rfl ?_
          rw [if_pos c1] at hR
          subst hR
          refine ⟨?_, _, f2, rfl, by rw [tp_8]; exact congrArg nI c1, hmk3 _ _, hf2, fun _ => ⟨?_, hrows2, hcode2⟩⟩
          · rw [if_pos rfl, List.length_append]
            show some (Value.int (nI (n + 1))) = some (Value.int (nI (rows.length + 1)))
            rw [hrl]
          · rw [List.length_append]
            show rows.length + 1 ≤ 12
            have := hb.2.2
            omega
        refine x_al rfl rfl ?_
        refine x_c rfl ?_
        refine x_c rfl ?_
        rw [if_neg c1] at hR
        refine x_call3 (n_isAt (hT2.tp g2) hn) rfl (Nat.le_of_ble_eq_true rfl) (Or.inl (by first | exact hn | assumption)) (rcv_at (by first | exact rw_md hn | exact rw_w hn | exact rw_A hn (by exact rfl) | exact rw_B2 hn | exact rw_B3 hn | assumption) (by decide) (by decide)) (Nat.le_of_ble_eq_true rfl) (Nat.le_of_ble_eq_true rfl) (fun E w9 hq => hq.elim) ?_
        rintro v9 w9 ⟨rfl, rfl⟩
        rw [ht]
        refine x_ifneB rfl (fun c2 => ?_) (fun c2 => ?_)
        rotate_left
        · refine x_c rfl ?_
          refine x_reti rfl (Nat.le_of_ble_eq_true rfl) (Nat.le_of_ble_eq_true rfl) rfl ?_
          rw [if_neg (fun h => c2 ⟨by omega, h⟩)] at hR
          subst hR
          exact ⟨rfl, _, f2, rfl, rfl, hmk3 _ _, hf2, fun h => absurd h (by show ¬ false = true; decide)⟩
        refine x_al rfl rfl ?_
        refine x_dup rfl rfl ?_
        refine x_get rfl (rw_md hn) (by exact rfl) ?_
        refine x_c rfl ?_
        refine x_add rfl ?_
        refine x_putM rfl hn rfl rfl rfl (mset_6 _ _) ?_
        refine x_inc1 (lo' := [_, _]) rfl rfl rfl ?_
        refine x_go rfl ?_
        rw [if_pos c2.2] at hR
        rw [tp_inc]
        refine ih (n + 1) _ _ _ _ _ (by omega) (by have := hb.2.2; omega) (by rw [List.length_append]; show rows.length + 1 = n + 1; omega) (hT2.tp (by omega)) (by rw [List.length_append]; omega) ?_ (hmk3 _ _) hf2 hrows2 hcode2 hR
        rw [tp_o (by decide), k2, List.length_append]
  exact loop 13 0 (wS t en p) [] [] _ f (by decide) (by decide) rfl (hTp0.tp e4) (Nat.zero_le _) (by rw [tp_o (by decide), pk_us]; rfl) (hk0 _ _) (fun _ _ => rfl) (rows_nil f) (fun _ _ => rfl) hP
end TEXT
