/-! tries, its loops -/
abbrev btw (v a b : Int32) : Prop := (if a ≤ b then a else b) ≤ v ∧ v ≤ (if b ≤ a then a else b)
def rowB (f : Nat → Int32) (a b th : Nat) (q sx sy : Int32) (i : Nat) : Int32 := bitsF (fun j => decide (mayP f (a + 1 + 4 * i) (b + 1 + 4 * j) q sx sy)) th
def allB (row : Nat → Int32) : Nat → Int32 := acc (fun i x => x ||| row i) 0
abbrev insB (f : Nat → Int32) (a : Nat) (q sx sy : Int32) (i : Nat) : Prop := (0 ≤ tX q (f (a + 1 + 4 * i)) (f (a + 1 + 4 * i + 1)) + sx ∧ tX q (f (a + 1 + 4 * i)) (f (a + 1 + 4 * i + 1)) + sx ≤ 63) ∧ (0 ≤ tY q (f (a + 1 + 4 * i)) (f (a + 1 + 4 * i + 1)) + sy ∧ tY q (f (a + 1 + 4 * i)) (f (a + 1 + 4 * i + 1)) + sy ≤ 63)
abbrev seenB (f : Nat → Int32) (b : Nat) (x0 y0 x1 y1 q sx sy : Int32) (j : Nat) : Prop := btw (f (b + 1 + 4 * j) - sx) (tX q x0 y0) (tX q x1 y1) ∧ btw (f (b + 2 + 4 * j) - sy) (tY q x0 y0) (tY q x1 y1)
def agA (row : Nat → Int32) (f : Nat → Int32) (a : Nat) (q sx sy : Int32) (i : Nat) : Bool := decide (row i = 0 ∧ insB f a q sx sy i)
def agB (all : Int32) (f : Nat → Int32) (b : Nat) (x0 y0 x1 y1 q sx sy : Int32) (j : Nat) : Bool := decide (bt all j = false ∧ seenB f b x0 y0 x1 y1 q sx sy j)
/-- the points against a lay -/
def agN (f : Nat → Int32) (a b ours th : Nat) (x0 y0 x1 y1 q sx sy : Int32) : Nat := cn (agA (rowB f a b th q sx sy) f a q sx sy) ours + cn (agB (allB (rowB f a b th q sx sy) ours) f b x0 y0 x1 y1 q sx sy) th
def triV (f : Nat → Int32) (a b ours th : Nat) (x0 y0 x1 y1 q sx sy : Int32) (bb : bS) : bS := upB bb (nI (pairsV (rowB f a b th q sx sy) ours th)) (nI (agN f a b ours th x0 y0 x1 y1 q sx sy)) q sx sy
def mayW (row : Nat → Int32) (h : Nat → Int32) : Nat → Nat → Int32 := acc (fun i x => upd x i (row i)) h
theorem mayW_at {row h : Nat → Int32} {n i : Nat} (hi : i < n) : mayW row h n i = row i := by
  induction n with
  | zero => omega
  | succ n ih =>
    show upd (mayW row h n) n (row n) i = _
    by_cases e : i = n
    · subst e; exact pk_us
    · rw [pk_un e]; exact ih (by omega)
theorem upd_upd {f : Nat → Int32} {q : Nat} {a b : Int32} : upd (upd f q a) q b = upd f q b := by
  funext j; unfold upd; by_cases h : j = q <;> simp [h]
section LAYS
variable {g : aG} {d : Nat} {w : aW} {m f : Nat → Int32} {A : Nat → Nat → Int32} {B : Nat → Nat → Int64}
theorem n_tri2 {a b ours th ag0 : Nat} {x0 y0 x1 y1 q sx sy all : Int32} {A' : Nat → Nat → Int32} {bb : bS} {row : Nat → Int32} (ho8 : ours ≤ 8) (hm8 : th ≤ 8) (hb : b + 33 < 22176) (hag : ag0 ≤ 8) (hM : BM m bb) (hA : keepA A A') (hrow : ∀ i, i < ours → A' 1430 i = row i) (hn : w.1 = N0) : ∀ j, j ≤ th → ∀ o15 o16 o17, EX g mbOf (Ev g (d + 10)) (infoOf 227) k_X11_tries (triQ w m f A B (upB bb (nI (pairsV row ours th)) (nI (ag0 + cn (agB all f b x0 y0 x1 y1 q sx sy) th)) q sx sy)) noX w.1 (rW w m f A' B) 0 0 129 [some (.ref 1424), some (.int (nI a)), some (.int (nI b)), some (.int x0), some (.int y0), some (.int x1), some (.int y1), some (.int q), some (.int sx), some (.int sy), some (.int (nI ours)), some (.int (nI th)), some (.int all), some (.int (nI (ag0 + cn (agB all f b x0 y0 x1 y1 q sx sy) j))), some (.int (nI j)), o15, o16, o17] [] := by
  refine downN th fun j hj ih => ?_
  intro o15 o16 o17
  have hcn := cn_le (agB all f b x0 y0 x1 y1 q sx sy) j
  refine x_il rfl rfl ?_
  refine x_il rfl rfl ?_
  refine x_icgeN rfl (by omega) (fun c => ?_) (fun c => ?_)
  · skip
    obtain rfl : j = th := by omega
    exact n_tri3 ho8 hm8 hM (fun k _ _ => rfl) hA hrow hn _ _ _ _
  refine x_al rfl rfl ?_
  refine x_get rfl (rw_md hn) (by exact rfl) ?_
  refine x_il rfl rfl ?_
  refine x_c rfl ?_
  refine x_addN (y := 1) rfl ?_
  refine x_c rfl ?_
  refine x_il rfl rfl ?_
  refine x_mulN (x := 4) rfl ?_
  refine x_addN rfl ?_
  refine x_iaN rfl (by first | exact rw_md hn | exact rw_w hn | exact rw_A hn (by exact rfl) | exact rw_B2 hn | exact rw_B3 hn | assumption) (by omega) ?_
  refine x_il rfl rfl ?_
  refine x_sub rfl ?_
  refine x_is (lo' := [_, _, _, _, _, _, _, _, _, _, _, _, _, _, _, _, _, _]) rfl (Nat.le_of_ble_eq_true rfl) rfl ?_
  refine x_al rfl rfl ?_
  refine x_get rfl (rw_md hn) (by exact rfl) ?_
  refine x_il rfl rfl ?_
  refine x_c rfl ?_
  refine x_addN (y := 2) rfl ?_
  refine x_c rfl ?_
  refine x_il rfl rfl ?_
  refine x_mulN (x := 4) rfl ?_
  refine x_addN rfl ?_
  refine x_iaN rfl (by first | exact rw_md hn | exact rw_w hn | exact rw_A hn (by exact rfl) | exact rw_B2 hn | exact rw_B3 hn | assumption) (by omega) ?_
  refine x_il rfl rfl ?_
  refine x_sub rfl ?_
  refine x_is (lo' := [_, _, _, _, _, _, _, _, _, _, _, _, _, _, _, _, _, _]) rfl (Nat.le_of_ble_eq_true rfl) rfl ?_
  refine x_il rfl rfl ?_
  refine x_il rfl rfl ?_
  refine x_il rfl rfl ?_
  refine x_il rfl rfl ?_
  refine x_call3 (m_turnedX) rfl (Nat.le_of_ble_eq_true rfl) (Or.inl (by first | exact hn | assumption)) trivial (Nat.le_of_ble_eq_true rfl) (Nat.le_of_ble_eq_true rfl) (fun E w9 hq => hq.elim) ?_
  rintro v9 w9 ⟨rfl, rfl⟩
  refine x_il rfl rfl ?_
  refine x_il rfl rfl ?_
  refine x_il rfl rfl ?_
  refine x_call3 (m_turnedX) rfl (Nat.le_of_ble_eq_true rfl) (Or.inl (by first | exact hn | assumption)) trivial (Nat.le_of_ble_eq_true rfl) (Nat.le_of_ble_eq_true rfl) (fun E w9 hq => hq.elim) ?_
  rintro v9 w9 ⟨rfl, rfl⟩
  refine x_call3 (m_isBetween (by assumption)) rfl (Nat.le_of_ble_eq_true rfl) (Or.inl (by first | exact hn | assumption)) trivial (Nat.le_of_ble_eq_true rfl) (Nat.le_of_ble_eq_true rfl) (fun E w9 hq => hq.elim) ?_
  rintro v9 w9 ⟨rfl, rfl⟩
  have tail : ∀ s : Bool, (s = true ↔ seenB f b x0 y0 x1 y1 q sx sy j) → EX g mbOf (Ev g (d + 10)) (infoOf 227) k_X11_tries (triQ w m f A B (upB bb (nI (pairsV row ours th)) (nI (ag0 + cn (agB all f b x0 y0 x1 y1 q sx sy) th)) q sx sy)) noX w.1 (rW w m f A' B) 0 0 183 [some (.ref 1424), some (.int (nI a)), some (.int (nI b)), some (.int x0), some (.int y0), some (.int x1), some (.int y1), some (.int q), some (.int sx), some (.int sy), some (.int (nI ours)), some (.int (nI th)), some (.int all), some (.int (nI (ag0 + cn (agB all f b x0 y0 x1 y1 q sx sy) j))), some (.int (nI j)), some (.int (f (b + 1 + 4 * j) - sx)), some (.int (f (b + 2 + 4 * j) - sy)), o17] [.int (bI s)] := by
    intro s hs
    refine x_is (lo' := [_, _, _, _, _, _, _, _, _, _, _, _, _, _, _, _, _, _]) rfl (Nat.le_of_ble_eq_true rfl) rfl ?_
    refine x_il rfl rfl ?_
    refine x_il rfl rfl ?_
    refine x_il rfl rfl ?_
    refine x_shr rfl ?_
    refine x_c rfl ?_
    refine x_and rfl ?_
    rw [bt_shr (by omega)]
    refine x_ifne rfl (fun c1 => ?_) (fun c1 => ?_)
    · refine x_c rfl ?_
      refine x_addN (y := 0) rfl ?_
      refine x_is (lo' := [_, _, _, _, _, _, _, _, _, _, _, _, _, _, _, _, _, _]) rfl (Nat.le_of_ble_eq_true rfl) rfl ?_
      refine x_inc1 (lo' := [_, _, _, _, _, _, _, _, _, _, _, _, _, _, _, _, _, _]) rfl rfl rfl ?_
      refine x_go rfl ?_
      have e : ¬ agB all f b x0 y0 x1 y1 q sx sy j = true := by
        unfold agB
        rw [decide_eq_true_iff]
        intro h
        exact c1 (bI_z.mpr h.1)
      have := ih c
      rw [cn_f e] at this
      exact this _ _ _
    refine x_il rfl rfl ?_
    refine x_ifeq rfl (fun c2 => ?_) (fun c2 => ?_)
    · refine x_c rfl ?_
      refine x_addN (y := 0) rfl ?_
      refine x_is (lo' := [_, _, _, _, _, _, _, _, _, _, _, _, _, _, _, _, _, _]) rfl (Nat.le_of_ble_eq_true rfl) rfl ?_
      refine x_inc1 (lo' := [_, _, _, _, _, _, _, _, _, _, _, _, _, _, _, _, _, _]) rfl rfl rfl ?_
      refine x_go rfl ?_
      have e : ¬ agB all f b x0 y0 x1 y1 q sx sy j = true := by
        unfold agB
        rw [decide_eq_true_iff]
        intro h
        rw [bI_z.mp c2] at hs
        exact absurd (hs.mpr h.2) (by decide)
      have := ih c
      rw [cn_f e] at this
      exact this _ _ _
    refine x_c rfl ?_
    refine x_go rfl ?_
    refine x_addN (y := 1) rfl ?_
    refine x_is (lo' := [_, _, _, _, _, _, _, _, _, _, _, _, _, _, _, _, _, _]) rfl (Nat.le_of_ble_eq_true rfl) rfl ?_
    refine x_inc1 (lo' := [_, _, _, _, _, _, _, _, _, _, _, _, _, _, _, _, _, _]) rfl rfl rfl ?_
    refine x_go rfl ?_
    have e : agB all f b x0 y0 x1 y1 q sx sy j = true := by
      unfold agB
      rw [decide_eq_true_iff]
      refine ⟨bI_z.mp c1, hs.mp ?_⟩
      cases s with
      | true => rfl
      | false => exact absurd rfl c2
    have := ih c
    rw [cn_t e] at this
    exact this _ _ _
  refine x_ifeqB rfl (fun c1 => ?_) (fun c1 => ?_)
  · refine x_c rfl ?_
    exact tail false (by constructor; intro h; cases h; intro h; exact absurd h.1 c1)
  refine x_il rfl rfl ?_
  refine x_il rfl rfl ?_
  refine x_il rfl rfl ?_
  refine x_il rfl rfl ?_
  refine x_call3 (m_turnedY) rfl (Nat.le_of_ble_eq_true rfl) (Or.inl (by first | exact hn | assumption)) trivial (Nat.le_of_ble_eq_true rfl) (Nat.le_of_ble_eq_true rfl) (fun E w9 hq => hq.elim) ?_
  rintro v9 w9 ⟨rfl, rfl⟩
  refine x_il rfl rfl ?_
  refine x_il rfl rfl ?_
  refine x_il rfl rfl ?_
  refine x_call3 (m_turnedY) rfl (Nat.le_of_ble_eq_true rfl) (Or.inl (by first | exact hn | assumption)) trivial (Nat.le_of_ble_eq_true rfl) (Nat.le_of_ble_eq_true rfl) (fun E w9 hq => hq.elim) ?_
  rintro v9 w9 ⟨rfl, rfl⟩
  refine x_call3 (m_isBetween (by assumption)) rfl (Nat.le_of_ble_eq_true rfl) (Or.inl (by first | exact hn | assumption)) trivial (Nat.le_of_ble_eq_true rfl) (Nat.le_of_ble_eq_true rfl) (fun E w9 hq => hq.elim) ?_
  rintro v9 w9 ⟨rfl, rfl⟩
  refine x_ifeqB rfl (fun c2 => ?_) (fun c2 => ?_)
  · refine x_c rfl ?_
    exact tail false (by constructor; intro h; cases h; intro h; exact absurd h.2 c2)
  refine x_c rfl ?_
  refine x_go rfl ?_
  exact tail true (by constructor; intro h; exact ⟨c1, c2⟩; intro h; rfl)
theorem n_tri1 {a b ours th : Nat} {x0 y0 x1 y1 q sx sy : Int32} {bb : bS} (ho8 : ours ≤ 8) (hm8 : th ≤ 8) (ha : a + 33 < 22176) (hb : b + 33 < 22176) (hM : BM m bb) (hn : w.1 = N0) : ∀ i, i ≤ ours → ∀ o15 o16 o17, EX g mbOf (Ev g (d + 10)) (infoOf 227) k_X11_tries (triQ w m f A B (triV f a b ours th x0 y0 x1 y1 q sx sy bb)) noX w.1 (rW w m f (udA A 1430 (mayW (rowB f a b th q sx sy) (A 1430) i)) B) 0 0 16 [some (.ref 1424), some (.int (nI a)), some (.int (nI b)), some (.int x0), some (.int y0), some (.int x1), some (.int y1), some (.int q), some (.int sx), some (.int sy), some (.int (nI ours)), some (.int (nI th)), some (.int (allB (rowB f a b th q sx sy) i)), some (.int (nI (cn (agA (rowB f a b th q sx sy) f a q sx sy) i))), some (.int (nI i)), o15, o16, o17] [] := by
  refine downN ours fun i hi ih => ?_
  intro o15 o16 o17
  have hcn := cn_le (agA (rowB f a b th q sx sy) f a q sx sy) i
  generalize hMW : mayW (rowB f a b th q sx sy) (A 1430) i = MW at *
  refine x_il rfl rfl ?_
  refine x_il rfl rfl ?_
  refine x_icgeN rfl (by omega) (fun c => ?_) (fun c => ?_)
  · refine x_c rfl ?_
    refine x_is (lo' := [_, _, _, _, _, _, _, _, _, _, _, _, _, _, _, _, _, _]) rfl (Nat.le_of_ble_eq_true rfl) rfl ?_
    obtain rfl : i = ours := by omega
    have := n_tri2 (d := d) (a := a) (th := th) (ag0 := cn (agA (rowB f a b th q sx sy) f a q sx sy) i) (x0 := x0) (y0 := y0) (x1 := x1) (y1 := y1) (q := q) (sx := sx) (sy := sy) (all := allB (rowB f a b th q sx sy) i) (A' := udA A 1430 MW) (row := rowB f a b th q sx sy) (bb := bb) (m := m) (f := f) (A := A) (B := B) (g := g) (w := w) (b := b) ho8 hm8 hb (by omega) hM (fun k h1 h2 => by unfold udA; rw [if_neg h1]) (fun k hk => by rw [← hMW]; exact mayW_at hk) hn 0 (Nat.zero_le _) o15 o16 o17
    exact this
  refine x_il rfl rfl ?_
  refine x_c rfl ?_
  refine x_addN (y := 1) rfl ?_
  refine x_c rfl ?_
  refine x_il rfl rfl ?_
  refine x_mulN (x := 4) rfl ?_
  refine x_addN rfl ?_
  refine x_is (lo' := [_, _, _, _, _, _, _, _, _, _, _, _, _, _, _, _, _, _]) rfl (Nat.le_of_ble_eq_true rfl) rfl ?_
  refine x_al rfl rfl ?_
  refine x_get rfl (rw_md hn) (by exact rfl) ?_
  refine x_il rfl rfl ?_
  refine x_c rfl ?_
  first | refine x_iasW rfl hn (by omega) ?_ | refine x_iasA rfl hn (by exact rfl) (by omega) ?_
  refine x_c rfl ?_
  refine x_is (lo' := [_, _, _, _, _, _, _, _, _, _, _, _, _, _, _, _, _, _]) rfl (Nat.le_of_ble_eq_true rfl) rfl ?_
  rw [udA_udA]
  have inner : ∀ j, j ≤ th → EX g mbOf (Ev g (d + 10)) (infoOf 227) k_X11_tries (triQ w m f A B (triV f a b ours th x0 y0 x1 y1 q sx sy bb)) noX w.1 (rW w m f (udA A 1430 (upd MW i (bitsF (fun j => decide (mayP f (a + 1 + 4 * i) (b + 1 + 4 * j) q sx sy)) j))) B) 0 0 34 [some (.ref 1424), some (.int (nI a)), some (.int (nI b)), some (.int x0), some (.int y0), some (.int x1), some (.int y1), some (.int q), some (.int sx), some (.int sy), some (.int (nI ours)), some (.int (nI th)), some (.int (allB (rowB f a b th q sx sy) i)), some (.int (nI (cn (agA (rowB f a b th q sx sy) f a q sx sy) i))), some (.int (nI i)), some (.int (nI (a + 1 + 4 * i))), some (.int (nI j)), o17] [] := by
    refine downN th fun j hj ihj => ?_
    refine x_il rfl rfl ?_
    refine x_il rfl rfl ?_
    refine x_icgeN rfl (by omega) (fun c2 => ?_) (fun c2 => ?_)
    · skip
      obtain rfl : j = th := by omega
      have hMW2 : mayW (rowB f a b j q sx sy) (A 1430) (i + 1) = upd MW i (rowB f a b j q sx sy i) := by rw [← hMW]; rfl
      have ih := ih c
      rw [hMW2] at ih
      rw [show bitsF (fun k => decide (mayP f (a + 1 + 4 * i) (b + 1 + 4 * k) q sx sy)) j = rowB f a b j q sx sy i from rfl]
      have eall : allB (rowB f a b j q sx sy) (i + 1) = allB (rowB f a b j q sx sy) i ||| rowB f a b j q sx sy i := rfl
      rw [eall] at ih
      have hagA : agA (rowB f a b j q sx sy) f a q sx sy i = decide (rowB f a b j q sx sy i = 0 ∧ insB f a q sx sy i) := rfl
      generalize rowB f a b j q sx sy i = rw9 at *
      have tail : ∀ s : Bool, (s = true ↔ insB f a q sx sy i) → EX g mbOf (Ev g (d + 10)) (infoOf 227) k_X11_tries (triQ w m f A B (triV f a b ours j x0 y0 x1 y1 q sx sy bb)) noX w.1 (rW w m f (udA A 1430 (upd MW i rw9)) B) 0 0 111 [some (.ref 1424), some (.int (nI a)), some (.int (nI b)), some (.int x0), some (.int y0), some (.int x1), some (.int y1), some (.int q), some (.int sx), some (.int sy), some (.int (nI ours)), some (.int (nI j)), some (.int (allB (rowB f a b j q sx sy) i ||| rw9)), some (.int (nI (cn (agA (rowB f a b j q sx sy) f a q sx sy) i))), some (.int (nI i)), some (.int (nI (a + 1 + 4 * i))), some (.int (nI j)), o17] [.int (bI s)] := by
        intro s hs
        refine x_is (lo' := [_, _, _, _, _, _, _, _, _, _, _, _, _, _, _, _, _, _]) rfl (Nat.le_of_ble_eq_true rfl) rfl ?_
        refine x_il rfl rfl ?_
        refine x_al rfl rfl ?_
        refine x_get rfl (rw_md hn) (by exact rfl) ?_
        refine x_il rfl rfl ?_
        refine x_iaN rfl (by first | exact rw_md hn | exact rw_w hn | exact rw_A hn (by exact rfl) | exact rw_B2 hn | exact rw_B3 hn | assumption) (by omega) ?_
        rw [show udA A 1430 (upd MW i rw9) 1430 i = rw9 from pk_us]
        refine x_ifne rfl (fun c3 => ?_) (fun c3 => ?_)
        · refine x_c rfl ?_
          refine x_addN (y := 0) rfl ?_
          refine x_is (lo' := [_, _, _, _, _, _, _, _, _, _, _, _, _, _, _, _, _, _]) rfl (Nat.le_of_ble_eq_true rfl) rfl ?_
          refine x_inc1 (lo' := [_, _, _, _, _, _, _, _, _, _, _, _, _, _, _, _, _, _]) rfl rfl rfl ?_
          refine x_go rfl ?_
          have e : ¬ agA (rowB f a b j q sx sy) f a q sx sy i = true := by
            rw [hagA, decide_eq_true_iff]
            exact fun h => c3 h.1
          rw [cn_f e] at ih
          exact ih _ _ _
        refine x_il rfl rfl ?_
        refine x_ifeq rfl (fun c4 => ?_) (fun c4 => ?_)
        · refine x_c rfl ?_
          refine x_addN (y := 0) rfl ?_
          refine x_is (lo' := [_, _, _, _, _, _, _, _, _, _, _, _, _, _, _, _, _, _]) rfl (Nat.le_of_ble_eq_true rfl) rfl ?_
          refine x_inc1 (lo' := [_, _, _, _, _, _, _, _, _, _, _, _, _, _, _, _, _, _]) rfl rfl rfl ?_
          refine x_go rfl ?_
          have e : ¬ agA (rowB f a b j q sx sy) f a q sx sy i = true := by
            rw [hagA, decide_eq_true_iff]
            intro h
            rw [bI_z.mp c4] at hs
            exact absurd (hs.mpr h.2) (by decide)
          rw [cn_f e] at ih
          exact ih _ _ _
        refine x_c rfl ?_
        refine x_go rfl ?_
        refine x_addN (y := 1) rfl ?_
        refine x_is (lo' := [_, _, _, _, _, _, _, _, _, _, _, _, _, _, _, _, _, _]) rfl (Nat.le_of_ble_eq_true rfl) rfl ?_
        refine x_inc1 (lo' := [_, _, _, _, _, _, _, _, _, _, _, _, _, _, _, _, _, _]) rfl rfl rfl ?_
        refine x_go rfl ?_
        have e : agA (rowB f a b j q sx sy) f a q sx sy i = true := by
          rw [hagA, decide_eq_true_iff]
          refine ⟨c3, hs.mp ?_⟩
          cases s with
          | true => rfl
          | false => exact absurd rfl c4
        rw [cn_t e] at ih
        exact ih _ _ _
      refine x_il rfl rfl ?_
      refine x_al rfl rfl ?_
      refine x_get rfl (rw_md hn) (by exact rfl) ?_
      refine x_il rfl rfl ?_
      refine x_iaN rfl (by first | exact rw_md hn | exact rw_w hn | exact rw_A hn (by exact rfl) | exact rw_B2 hn | exact rw_B3 hn | assumption) (by omega) ?_
      rw [show udA A 1430 (upd MW i rw9) 1430 i = rw9 from pk_us]
      refine x_or rfl ?_
      refine x_is (lo' := [_, _, _, _, _, _, _, _, _, _, _, _, _, _, _, _, _, _]) rfl (Nat.le_of_ble_eq_true rfl) rfl ?_
      refine x_il rfl rfl ?_
      refine x_al rfl rfl ?_
      refine x_get rfl (rw_md hn) (by exact rfl) ?_
      refine x_il rfl rfl ?_
      refine x_iaN rfl (by first | exact rw_md hn | exact rw_w hn | exact rw_A hn (by exact rfl) | exact rw_B2 hn | exact rw_B3 hn | assumption) (by omega) ?_
      refine x_al rfl rfl ?_
      refine x_get rfl (rw_md hn) (by exact rfl) ?_
      refine x_il rfl rfl ?_
      refine x_c rfl ?_
      refine x_addN (y := 1) rfl ?_
      refine x_iaN rfl (by first | exact rw_md hn | exact rw_w hn | exact rw_A hn (by exact rfl) | exact rw_B2 hn | exact rw_B3 hn | assumption) (by omega) ?_
      refine x_call3 (m_turnedX) rfl (Nat.le_of_ble_eq_true rfl) (Or.inl (by first | exact hn | assumption)) trivial (Nat.le_of_ble_eq_true rfl) (Nat.le_of_ble_eq_true rfl) (fun E w9 hq => hq.elim) ?_
      rintro v9 w9 ⟨rfl, rfl⟩
      refine x_il rfl rfl ?_
      refine x_add rfl ?_
      refine x_c rfl ?_
      refine x_c rfl ?_
      refine x_call3 (m_in) rfl (Nat.le_of_ble_eq_true rfl) (Or.inl (by first | exact hn | assumption)) trivial (Nat.le_of_ble_eq_true rfl) (Nat.le_of_ble_eq_true rfl) (fun E w9 hq => hq.elim) ?_
      rintro v9 w9 ⟨rfl, rfl⟩
      refine x_ifeqB rfl (fun c5 => ?_) (fun c5 => ?_)
      · refine x_c rfl ?_
        exact tail false (by constructor; intro h; cases h; intro h; exact absurd h.1 c5)
      refine x_il rfl rfl ?_
      refine x_al rfl rfl ?_
      refine x_get rfl (rw_md hn) (by exact rfl) ?_
      refine x_il rfl rfl ?_
      refine x_iaN rfl (by first | exact rw_md hn | exact rw_w hn | exact rw_A hn (by exact rfl) | exact rw_B2 hn | exact rw_B3 hn | assumption) (by omega) ?_
      refine x_al rfl rfl ?_
      refine x_get rfl (rw_md hn) (by exact rfl) ?_
      refine x_il rfl rfl ?_
      refine x_c rfl ?_
      refine x_addN (y := 1) rfl ?_
      refine x_iaN rfl (by first | exact rw_md hn | exact rw_w hn | exact rw_A hn (by exact rfl) | exact rw_B2 hn | exact rw_B3 hn | assumption) (by omega) ?_
      refine x_call3 (m_turnedY) rfl (Nat.le_of_ble_eq_true rfl) (Or.inl (by first | exact hn | assumption)) trivial (Nat.le_of_ble_eq_true rfl) (Nat.le_of_ble_eq_true rfl) (fun E w9 hq => hq.elim) ?_
      rintro v9 w9 ⟨rfl, rfl⟩
      refine x_il rfl rfl ?_
      refine x_add rfl ?_
      refine x_c rfl ?_
      refine x_c rfl ?_
      refine x_call3 (m_in) rfl (Nat.le_of_ble_eq_true rfl) (Or.inl (by first | exact hn | assumption)) trivial (Nat.le_of_ble_eq_true rfl) (Nat.le_of_ble_eq_true rfl) (fun E w9 hq => hq.elim) ?_
      rintro v9 w9 ⟨rfl, rfl⟩
      refine x_ifeqB rfl (fun c6 => ?_) (fun c6 => ?_)
      · refine x_c rfl ?_
        exact tail false (by constructor; intro h; cases h; intro h; exact absurd h.2 c6)
      refine x_c rfl ?_
      refine x_go rfl ?_
      exact tail true (by constructor; intro h; exact ⟨c5, c6⟩; intro h; rfl)
    refine x_al rfl rfl ?_
    refine x_get rfl (rw_md hn) (by exact rfl) ?_
    refine x_il rfl rfl ?_
    refine x_dup2 rfl rfl rfl ?_
    refine x_iaN rfl (by first | exact rw_md hn | exact rw_w hn | exact rw_A hn (by exact rfl) | exact rw_B2 hn | exact rw_B3 hn | assumption) (by omega) ?_
    rw [show ∀ x, udA A 1430 (upd MW i x) 1430 i = x from fun x => pk_us]
    refine x_al rfl rfl ?_
    refine x_il rfl rfl ?_
    refine x_il rfl rfl ?_
    refine x_c rfl ?_
    refine x_addN (y := 1) rfl ?_
    refine x_c rfl ?_
    refine x_il rfl rfl ?_
    refine x_mulN (x := 4) rfl ?_
    refine x_addN rfl ?_
    refine x_il rfl rfl ?_
    refine x_il rfl rfl ?_
    refine x_il rfl rfl ?_
    refine x_call6 (n_mayPair (by omega) (by omega) hn) rfl (Nat.le_of_ble_eq_true rfl) (Or.inl (by first | exact hn | assumption)) (rcv_at (by first | exact rw_md hn | exact rw_w hn | exact rw_A hn (by exact rfl) | exact rw_B2 hn | exact rw_B3 hn | assumption) (by decide) (by decide)) (Nat.le_of_ble_eq_true rfl) (Nat.le_of_ble_eq_true rfl) (fun E w9 hq => hq.elim) ?_
    rintro v9 w9 ⟨rfl, rfl⟩
    have step : ∀ v : Int32, v = (if decide (mayP f (a + 1 + 4 * i) (b + 1 + 4 * j) q sx sy) = true then 1 <<< (nI j &&& 31) else 0) → EX g mbOf (Ev g (d + 10)) (infoOf 227) k_X11_tries (triQ w m f A B (triV f a b ours th x0 y0 x1 y1 q sx sy bb)) noX w.1 (rW w m f (udA A 1430 (upd MW i (bitsF (fun j => decide (mayP f (a + 1 + 4 * i) (b + 1 + 4 * j) q sx sy)) j ||| v))) B) 0 0 34 [some (.ref 1424), some (.int (nI a)), some (.int (nI b)), some (.int x0), some (.int y0), some (.int x1), some (.int y1), some (.int q), some (.int sx), some (.int sy), some (.int (nI ours)), some (.int (nI th)), some (.int (allB (rowB f a b th q sx sy) i)), some (.int (nI (cn (agA (rowB f a b th q sx sy) f a q sx sy) i))), some (.int (nI i)), some (.int (nI (a + 1 + 4 * i))), some (.int (nI (j + 1))), o17] [] := by
      intro v hv
      rw [hv]
      exact ihj c2
    refine x_ifeqB rfl (fun c3 => ?_) (fun c3 => ?_)
    · refine x_c rfl ?_
      refine x_or rfl ?_
      first | refine x_iasW rfl hn (by omega) ?_ | refine x_iasA rfl hn (by exact rfl) (by omega) ?_
      refine x_inc1 (lo' := [_, _, _, _, _, _, _, _, _, _, _, _, _, _, _, _, _, _]) rfl rfl rfl ?_
      refine x_go rfl ?_
      rw [udA_udA, show ∀ x y, upd (udA A 1430 (upd MW i x) 1430) i y = upd MW i y from fun x y => upd_upd]
      exact step _ (if_neg (by rw [decide_eq_true_iff]; exact c3)).symm
    refine x_c rfl ?_
    refine x_il rfl rfl ?_
    refine x_shl rfl ?_
    refine x_go rfl ?_
    refine x_or rfl ?_
    first | refine x_iasW rfl hn (by omega) ?_ | refine x_iasA rfl hn (by exact rfl) (by omega) ?_
    refine x_inc1 (lo' := [_, _, _, _, _, _, _, _, _, _, _, _, _, _, _, _, _, _]) rfl rfl rfl ?_
    refine x_go rfl ?_
    rw [udA_udA, show ∀ x y, upd (udA A 1430 (upd MW i x) 1430) i y = upd MW i y from fun x y => upd_upd]
    exact step _ (if_pos (by rw [decide_eq_true_iff]; exact c3)).symm
  exact inner 0 (Nat.zero_le _)
end LAYS
