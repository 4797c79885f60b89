/-! tries and lays -/
theorem seek_rel {may may' : Nat → Int32} {ours many many' : Nat} (hm : many ≤ many') (hm8 : many' ≤ 8) (ho8 : ours ≤ 8) (h1 : ∀ i, i < ours → may i = may' i) (h2 : ∀ i, i < ours → ∀ j, many ≤ j → j < many' → bt (may' i) j = false) : ∀ k i, i < ours → ∀ s s' : skS, s.1 = s'.1 → (∀ j, j < many → s.2 j = s'.2 j) → HoOk ours many s.2 → (seekF may many k i s).1 = (seekF may' many' k i s').1 ∧ (seekF may many k i s).2.1 = (seekF may' many' k i s').2.1 ∧ (∀ j, j < many → (seekF may many k i s).2.2 j = (seekF may' many' k i s').2.2 j) ∧ HoOk ours many (seekF may many k i s).2.2 := by
  intro k
  induction k with
  | zero => intro i hi s s' e1 e2 e3; exact ⟨rfl, e1, e2, e3⟩
  | succ k ih =>
    intro i hi s s' e1 e2 e3
    refine it_rel (fin := fun s => (false, s)) (fin' := fun s => (false, s)) (Rs := fun (s s' : skS) => s.1 = s'.1 ∧ (∀ j, j < many → s.2 j = s'.2 j) ∧ HoOk ours many s.2) (Rr := fun (r r' : Bool × skS) => r.1 = r'.1 ∧ r.2.1 = r'.2.1 ∧ (∀ j, j < many → r.2.2 j = r'.2.2 j) ∧ HoOk ours many r.2.2) hm ?_ ?_ (fun s s' h => ⟨rfl, h⟩) 0 (Nat.zero_le _) s s' ⟨e1, e2, e3⟩
    · intro c t t' hc ht
      obtain ⟨a1, a2, a3⟩ := ht
      unfold seekS
      rw [← h1 i hi, ← a1, ← a2 c hc]
      by_cases c1 : bt (may i) c = false ∨ bt t.1 c = true
      · left; exact ⟨t, t', by rw [if_pos c1], by rw [if_pos c1], a1, a2, a3⟩
      · rw [if_neg c1, if_neg c1]
        by_cases c2 : t.2 c < 0
        · right
          refine ⟨_, _, if_pos c2, if_pos c2, rfl, rfl, fun j hj => ?_, ho_upd a3 hi⟩
          show upd t.2 c (nI i) j = upd t'.2 c (nI i) j
          by_cases e : j = c
          · subst e; rw [pk_us, pk_us]
          · rw [pk_un e, pk_un e, a2 j hj]
        · rw [if_neg c2, if_neg c2]
          rcases a3 c hc with h3 | ⟨i', hi', e'⟩
          · exact absurd h3 c2
          · rw [e', nI_clamp (by omega)]
            have := ih i' hi' (sb t.1 c, t.2) (sb t.1 c, t'.2) rfl a2 a3
            generalize seekF may many k i' (sb t.1 c, t.2) = r at *
            generalize seekF may' many' k i' (sb t.1 c, t'.2) = r' at *
            obtain ⟨b1, b2, b3, b4⟩ := this
            rw [← b1]
            by_cases c3 : r.1 = true
            · right
              refine ⟨_, _, if_pos c3, if_pos c3, rfl, b2, fun j hj => ?_, ho_upd b4 hi⟩
              show upd r.2.2 c (nI i) j = upd r'.2.2 c (nI i) j
              by_cases e : j = c
              · subst e; rw [pk_us, pk_us]
              · rw [pk_un e, pk_un e, b3 j hj]
            · left
              exact ⟨_, _, if_neg c3, if_neg c3, b2, b3, b4⟩
    · intro c t t' hc hc2 ht
      unfold seekS
      rw [if_pos (Or.inl (h2 i hi c hc hc2))]
theorem pair_rel {may may' : Nat → Int32} {ours many many' : Nat} {ho ho' : Nat → Int32} (hm : many ≤ many') (hm8 : many' ≤ 8) (ho8 : ours ≤ 8) (h1 : ∀ i, i < ours → may i = may' i) (h2 : ∀ i, i < ours → ∀ j, many ≤ j → j < many' → bt (may' i) j = false) (h3 : ∀ j, j < many → ho j = ho' j) (h4 : HoOk ours many ho) : ∀ r, r ≤ ours → (pairS may many ho r).1 = (pairS may' many' ho' r).1 ∧ (∀ j, j < many → (pairS may many ho r).2 j = (pairS may' many' ho' r).2 j) ∧ HoOk ours many (pairS may many ho r).2 := by
  intro r
  induction r with
  | zero => intro _; exact ⟨rfl, h3, h4⟩
  | succ r ih =>
    intro hr
    obtain ⟨a1, a2, a3⟩ := ih (by omega)
    have := seek_rel hm hm8 ho8 h1 h2 9 r (by omega) (0, (pairS may many ho r).2) (0, (pairS may' many' ho' r).2) rfl a2 a3
    refine ⟨?_, this.2.2⟩
    show (pairS may many ho r).1 + (if (seekF may many 9 r (0, (pairS may many ho r).2)).1 = true then 1 else 0) = (pairS may' many' ho' r).1 + (if (seekF may' many' 9 r (0, (pairS may' many' ho' r).2)).1 = true then 1 else 0)
    rw [this.1, a1]
/-- how many pairs there are where row i says with whom our i may pair -/
def pairsV (row : Nat → Int32) (ours many : Nat) : Nat := (pairS row many (fun _ => -1) ours).1
theorem pairN_V {may row : Nat → Int32} {ours many : Nat} {ho0 : Nat → Int32} (hm8 : many ≤ 8) (ho8 : ours ≤ 8) (h1 : ∀ i, i < ours → may i = row i) : pairN may ours many ho0 = pairsV row ours many := by
  refine (pair_rel (Nat.le_refl _) hm8 ho8 h1 (fun i _ j h h' => absurd h (by omega)) (fun j hj => reset_at hj) (fun j hj => Or.inl (by rw [reset_at hj]; decide)) ours (Nat.le_refl _)).1
abbrev bS : Type := Int32 × Int32 × Int32 × Int32 × Int32
def BM (M : Nat → Int32) (b : bS) : Prop := M 13 = b.1 ∧ M 14 = b.2.1 ∧ M 15 = b.2.2.1 ∧ M 16 = b.2.2.2.1 ∧ M 17 = b.2.2.2.2
def keepS (M M' : Nat → Int32) : Prop := ∀ k, ¬ (13 ≤ k ∧ k ≤ 17) → k ≠ 20 → M' k = M k
def keepA (A A' : Nat → Nat → Int32) : Prop := ∀ q, q ≠ 1430 → q ≠ 1431 → A' q = A q
/-- the better of the best so far and a new lay -/
def upB (b : bS) (p ag q sx sy : Int32) : bS := if p < b.1 ∨ (p = b.1 ∧ b.2.1 < ag) then b else if ¬ (b.1 < p ∨ ag < b.2.1) ∧ (b.2.2.1 < q ∨ (q = b.2.2.1 ∧ (b.2.2.2.1 < sx ∨ (sx = b.2.2.2.1 ∧ b.2.2.2.2 ≤ sy)))) then b else (p, ag, q, sx, sy)
def triQ (w : aW) (m f : Nat → Int32) (A : Nat → Nat → Int32) (B : Nat → Nat → Int64) (b : bS) : Option Value → aW → Prop := fun v w' => v = none ∧ ∃ M' A', w' = rW w M' f A' B ∧ BM M' b ∧ keepS m M' ∧ keepA A A'
section LAYS
variable {g : aG} {d : Nat} {w : aW} {m f : Nat → Int32} {A : Nat → Nat → Int32} {B : Nat → Nat → Int64}
theorem n_tri3 {a b ours th ag : Nat} {x0 y0 x1 y1 q sx sy all : Int32} {M : Nat → Int32} {A' : Nat → Nat → Int32} {bb : bS} {row : Nat → Int32} (ho8 : ours ≤ 8) (hm8 : th ≤ 8) (hM : BM M bb) (hk : keepS m M) (hA : keepA A A') (hrow : ∀ i, i < ours → A' 1430 i = row i) (hn : w.1 = N0) : ∀ o14 o15 o16 o17, EX g mbOf (Ev g (d + 10)) (infoOf 227) k_X11_tries (triQ w m f A B (upB bb (nI (pairsV row ours th)) (nI ag) q sx sy)) noX w.1 (rW w M f A' B) 0 0 200 [some (.ref 1424), some (.int (nI a)), some (.int (nI b)), some (.int x0), some (.int y0), some (.int x1), some (.int y1), some (.int q), some (.int sx), some (.int sy), some (.int (nI ours)), some (.int (nI th)), some (.int all), some (.int (nI ag)), o14, o15, o16, o17] [] := by
  intro o14 o15 o16 o17
  refine x_al rfl rfl ?_
  refine x_il rfl rfl ?_
  refine x_il rfl rfl ?_
  refine x_call3 (n_pairsOf ho8 hm8 hn) rfl (Nat.le_of_ble_eq_true rfl) (Or.inl (by first | exact hn | assumption)) (rcv_at (by first | exact rw_md hn | exact rw_w hn | exact rw_A hn (by exact rfl) | exact rw_B2 hn | exact rw_B3 hn | assumption) (by decide) (by decide)) (Nat.le_of_ble_eq_true rfl) (Nat.le_of_ble_eq_true rfl) (fun E w9 hq => hq.elim) ?_
  rintro v9 w9 ⟨rfl, tr, ho, rfl⟩
  refine x_is (lo' := [_, _, _, _, _, _, _, _, _, _, _, _, _, _, _, _, _, _]) rfl (Nat.le_of_ble_eq_true rfl) rfl ?_
  refine x_il rfl rfl ?_
  refine x_al rfl rfl ?_
  refine x_get rfl (rw_md hn) (by exact rfl) ?_
  rw [pairN_V hm8 ho8 hrow]
  generalize nI (pairsV row ours th) = p
  generalize nI ag = ag
  have hM2 : BM (upd M 20 tr) bb := hM
  have hk2 : keepS m (upd M 20 tr) := fun k h1 h2 => by unfold upd; rw [if_neg h2]; exact hk k h1 h2
  have hA2 : keepA A (udA A' 1431 ho) := fun k h1 h2 => by unfold udA; rw [if_neg h2]; exact hA k h1 h2
  generalize upd M 20 tr = M at *
  generalize udA A' 1431 ho = A' at *
  obtain ⟨b1, b2, b3, b4, b5⟩ := bb
  obtain ⟨m1, m2, m3, m4, m5⟩ := hM2
  dsimp only at m1 m2 m3 m4 m5
  have stay : upB (b1, b2, b3, b4, b5) p ag q sx sy = (b1, b2, b3, b4, b5) → ∀ pc o15, (pc = 217 ∨ pc = 252) → EX g mbOf (Ev g (d + 10)) (infoOf 227) k_X11_tries (triQ w m f A B (upB (b1, b2, b3, b4, b5) p ag q sx sy)) noX w.1 (rW w M f A' B) 0 0 pc [some (.ref 1424), some (.int (nI a)), some (.int (nI b)), some (.int x0), some (.int y0), some (.int x1), some (.int y1), some (.int q), some (.int sx), some (.int sy), some (.int (nI ours)), some (.int (nI th)), some (.int all), some (.int ag), some (.int p), o15, o16, o17] [] := by
    intro e pc o15 hpc
    rcases hpc with rfl | rfl
    · refine x_retv rfl (Nat.le_of_ble_eq_true rfl) (Nat.le_of_ble_eq_true rfl) rfl ?_
      exact ⟨rfl, M, A', rfl, by rw [e]; exact ⟨m1, m2, m3, m4, m5⟩, hk2, hA2⟩
    · refine x_retv rfl (Nat.le_of_ble_eq_true rfl) (Nat.le_of_ble_eq_true rfl) rfl ?_
      exact ⟨rfl, M, A', rfl, by rw [e]; exact ⟨m1, m2, m3, m4, m5⟩, hk2, hA2⟩
  have put : upB (b1, b2, b3, b4, b5) p ag q sx sy = (p, ag, q, sx, sy) → ∀ o15, EX g mbOf (Ev g (d + 10)) (infoOf 227) k_X11_tries (triQ w m f A B (upB (b1, b2, b3, b4, b5) p ag q sx sy)) noX w.1 (rW w M f A' B) 0 0 253 [some (.ref 1424), some (.int (nI a)), some (.int (nI b)), some (.int x0), some (.int y0), some (.int x1), some (.int y1), some (.int q), some (.int sx), some (.int sy), some (.int (nI ours)), some (.int (nI th)), some (.int all), some (.int ag), some (.int p), o15, o16, o17] [] := by
    intro e o15
    refine x_al rfl rfl ?_
    refine x_il rfl rfl ?_
    refine x_putM rfl hn rfl rfl rfl rfl ?_
    refine x_al rfl rfl ?_
    refine x_il rfl rfl ?_
    refine x_putM rfl hn rfl rfl rfl rfl ?_
    refine x_al rfl rfl ?_
    refine x_il rfl rfl ?_
    refine x_putM rfl hn rfl rfl rfl rfl ?_
    refine x_al rfl rfl ?_
    refine x_il rfl rfl ?_
    refine x_putM rfl hn rfl rfl rfl rfl ?_
    refine x_al rfl rfl ?_
    refine x_il rfl rfl ?_
    refine x_putM rfl hn rfl rfl rfl rfl ?_
    refine x_retv rfl (Nat.le_of_ble_eq_true rfl) (Nat.le_of_ble_eq_true rfl) rfl ?_
    refine ⟨rfl, _, A', rfl, by rw [e]; exact ⟨rfl, rfl, rfl, rfl, rfl⟩, ?_, hA2⟩
    intro k h1 h2
    have h3 : k ≠ 13 := fun h => h1 (by omega)
    have h4 : k ≠ 14 := fun h => h1 (by omega)
    have h5 : k ≠ 15 := fun h => h1 (by omega)
    have h6 : k ≠ 16 := fun h => h1 (by omega)
    have h7 : k ≠ 17 := fun h => h1 (by omega)
    unfold upd
    rw [if_neg h7, if_neg h6, if_neg h5, if_neg h4, if_neg h3]
    exact hk2 k h1 h2
  have on : ¬ (p < b1 ∨ (p = b1 ∧ b2 < ag)) → EX g mbOf (Ev g (d + 10)) (infoOf 227) k_X11_tries (triQ w m f A B (upB (b1, b2, b3, b4, b5) p ag q sx sy)) noX w.1 (rW w M f A' B) 0 0 218 [some (.ref 1424), some (.int (nI a)), some (.int (nI b)), some (.int x0), some (.int y0), some (.int x1), some (.int y1), some (.int q), some (.int sx), some (.int sy), some (.int (nI ours)), some (.int (nI th)), some (.int all), some (.int ag), some (.int p), o15, o16, o17] [] := by
    intro e0
    have U : upB (b1, b2, b3, b4, b5) p ag q sx sy = if ¬ (b1 < p ∨ ag < b2) ∧ (b3 < q ∨ (q = b3 ∧ (b4 < sx ∨ (sx = b4 ∧ b5 ≤ sy)))) then (b1, b2, b3, b4, b5) else (p, ag, q, sx, sy) := if_neg e0
    have yes : (b1 < p ∨ ag < b2) → EX g mbOf (Ev g (d + 10)) (infoOf 227) k_X11_tries (triQ w m f A B (upB (b1, b2, b3, b4, b5) p ag q sx sy)) noX w.1 (rW w M f A' B) 0 0 226 [some (.ref 1424), some (.int (nI a)), some (.int (nI b)), some (.int x0), some (.int y0), some (.int x1), some (.int y1), some (.int q), some (.int sx), some (.int sy), some (.int (nI ours)), some (.int (nI th)), some (.int all), some (.int ag), some (.int p), o15, o16, o17] [] := by
      intro e1
      refine x_c rfl ?_
      refine x_go rfl ?_
      refine x_is (lo' := [_, _, _, _, _, _, _, _, _, _, _, _, _, _, _, _, _, _]) rfl (Nat.le_of_ble_eq_true rfl) rfl ?_
      refine x_il rfl rfl ?_
      refine x_ifne rfl (fun c => ?_) (fun c => absurd c (by decide))
      exact put (by rw [U, if_neg (fun h => h.1 e1)]) _
    have no : ¬ (b1 < p ∨ ag < b2) → EX g mbOf (Ev g (d + 10)) (infoOf 227) k_X11_tries (triQ w m f A B (upB (b1, b2, b3, b4, b5) p ag q sx sy)) noX w.1 (rW w M f A' B) 0 0 228 [some (.ref 1424), some (.int (nI a)), some (.int (nI b)), some (.int x0), some (.int y0), some (.int x1), some (.int y1), some (.int q), some (.int sx), some (.int sy), some (.int (nI ours)), some (.int (nI th)), some (.int all), some (.int ag), some (.int p), o15, o16, o17] [] := by
      intro e1
      refine x_c rfl ?_
      refine x_is (lo' := [_, _, _, _, _, _, _, _, _, _, _, _, _, _, _, _, _, _]) rfl (Nat.le_of_ble_eq_true rfl) rfl ?_
      refine x_il rfl rfl ?_
      refine x_ifne rfl (fun c => absurd rfl c) (fun c => ?_)
      refine x_il rfl rfl ?_
      refine x_al rfl rfl ?_
      refine x_get rfl (rw_md hn) (by exact rfl) ?_
      rw [m3]
      refine x_icgt rfl (fun c2 => ?_) (fun c2 => ?_)
      · skip
        exact stay (by rw [U, if_pos ⟨e1, Or.inl c2⟩]) 252 _ (Or.inr rfl)
      refine x_il rfl rfl ?_
      refine x_al rfl rfl ?_
      refine x_get rfl (rw_md hn) (by exact rfl) ?_
      rw [m3]
      refine x_icne rfl (fun c3 => ?_) (fun c3 => ?_)
      · skip
        exact put (by rw [U, if_neg (fun h => h.2.elim c2 (fun h => c3 h.1))]) _
      refine x_il rfl rfl ?_
      refine x_al rfl rfl ?_
      refine x_get rfl (rw_md hn) (by exact rfl) ?_
      rw [m4]
      refine x_icgt rfl (fun c4 => ?_) (fun c4 => ?_)
      · skip
        exact stay (by rw [U, if_pos ⟨e1, Or.inr ⟨c3, Or.inl c4⟩⟩]) 252 _ (Or.inr rfl)
      refine x_il rfl rfl ?_
      refine x_al rfl rfl ?_
      refine x_get rfl (rw_md hn) (by exact rfl) ?_
      rw [m4]
      refine x_icne rfl (fun c5 => ?_) (fun c5 => ?_)
      · skip
        exact put (by rw [U, if_neg (fun h => h.2.elim c2 (fun h => h.2.elim c4 (fun h => c5 h.1)))]) _
      refine x_il rfl rfl ?_
      refine x_al rfl rfl ?_
      refine x_get rfl (rw_md hn) (by exact rfl) ?_
      rw [m5]
      refine x_iclt rfl (fun c6 => ?_) (fun c6 => ?_)
      · skip
        exact put (by rw [U, if_neg (fun h => h.2.elim c2 (fun h => h.2.elim c4 (fun h => absurd c6 (Int32.not_lt.mpr h.2))))]) _
      exact stay (by rw [U, if_pos ⟨e1, Or.inr ⟨c3, Or.inr ⟨c5, Int32.not_lt.mp c6⟩⟩⟩]) 252 _ (Or.inr rfl)
    refine x_il rfl rfl ?_
    refine x_al rfl rfl ?_
    refine x_get rfl (rw_md hn) (by exact rfl) ?_
    rw [m1]
    refine x_icgt rfl (fun c1 => ?_) (fun c1 => ?_)
    · skip
      exact yes (Or.inl c1)
    refine x_il rfl rfl ?_
    refine x_al rfl rfl ?_
    refine x_get rfl (rw_md hn) (by exact rfl) ?_
    rw [m2]
    refine x_icge rfl (fun c2 => ?_) (fun c2 => ?_)
    · skip
      exact no (fun h => h.elim c1 (fun h => absurd c2 (Int32.not_le.mpr h)))
    exact yes (Or.inr (Int32.not_le.mp c2))
  rw [m1]
  refine x_iclt rfl (fun c1 => ?_) (fun c1 => ?_)
  · skip
    exact stay (if_pos (Or.inl c1)) 217 _ (Or.inl rfl)
  refine x_il rfl rfl ?_
  refine x_al rfl rfl ?_
  refine x_get rfl (rw_md hn) (by exact rfl) ?_
  rw [m1]
  refine x_icne rfl (fun c2 => ?_) (fun c2 => ?_)
  · skip
    exact on (fun h => h.elim c1 (fun h => c2 h.1))
  refine x_il rfl rfl ?_
  refine x_al rfl rfl ?_
  refine x_get rfl (rw_md hn) (by exact rfl) ?_
  rw [m2]
  refine x_icle rfl (fun c3 => ?_) (fun c3 => ?_)
  · skip
    exact on (fun h => h.elim c1 (fun h => absurd c3 (Int32.not_le.mpr h.2)))
  exact stay (if_pos (Or.inr ⟨c2, Int32.not_le.mp c3⟩)) 217 _ (Or.inl rfl)
end LAYS
