/-! lays -/
def sxF (f : Nat → Int32) (a b q i j : Nat) : Int32 := f (b + 1 + 4 * j) - tX (nI q) (f (a + 1 + 4 * i)) (f (a + 1 + 4 * i + 1))
def syF (f : Nat → Int32) (a b q i j : Nat) : Int32 := f (b + 1 + 4 * j + 1) - tY (nI q) (f (a + 1 + 4 * i)) (f (a + 1 + 4 * i + 1))
def layJ (f : Nat → Int32) (a b ours th : Nat) (x0 y0 x1 y1 : Int32) (q i : Nat) : bS → Nat → bS := acc (fun j bb => triV f a b ours th x0 y0 x1 y1 (nI q) (sxF f a b q i j) (syF f a b q i j) bb)
def layI (f : Nat → Int32) (a b ours th : Nat) (x0 y0 x1 y1 : Int32) (q : Nat) : bS → Nat → bS := acc (fun i bb => layJ f a b ours th x0 y0 x1 y1 q i bb th)
def layQ (f : Nat → Int32) (a b ours th : Nat) (x0 y0 x1 y1 : Int32) : bS → Nat → bS := acc (fun q bb => layI f a b ours th x0 y0 x1 y1 q bb ours)
def layE (b : bS) : bS := if b.2.1 = 1000 then (b.1, 0, b.2.2.1, b.2.2.2.1, b.2.2.2.2) else b
/-- the best lay: pairs, against, turn, shifts -/
def layF (f : Nat → Int32) (a b ours th : Nat) (x0 y0 x1 y1 : Int32) : bS := layE (layQ f a b ours th x0 y0 x1 y1 (0, 1000, 0, 0, 0) 4)
theorem keepS_t {M M' M'' : Nat → Int32} (h : keepS M M') (h' : keepS M' M'') : keepS M M'' := fun k h1 h2 => (h' k h1 h2).trans (h k h1 h2)
theorem keepA_t {M M' M'' : Nat → Nat → Int32} (h : keepA M M') (h' : keepA M' M'') : keepA M M'' := fun k h1 h2 => (h' k h1 h2).trans (h k h1 h2)
section RULES3
variable {g : aG} {d : Nat} {I : aInfo} {K : List aI} {Qr : Option Value → aW → Prop} {Qx : String → aW → Prop} {nb : Nat} {w : aW} {uc us i : Nat} {lo : List (Option Value)} {st : List Value}
theorem x_call3W {mid : Nat} {l : List Nat} {a0 a1 a2 : Value} {Qr' : Option Value → aW → Prop} {Qx' : String → aW → Prop} (hc : Ev g d mid [a0, a1, a2] w Qr' Qx') (hK : K[i]? = some (aV mid 3 l)) (hst : stW st ≤ 12) (hmid : mid = 221 ∨ mid = 222) (hw : w.1 = N0 ∨ w.1 = nb + uc) (hr : rcvA g l w [a0, a1, a2]) (h1 : uc + (mbOf mid).1 ≤ I.1) (h2 : us + (mbOf mid).2 ≤ I.2.1)
    (kx : ∀ E w', Qx' E w' → match hndA I.2.2.2 E i with
      | some h => ∃ a vv ll, K[h]? = some (45, a, 0, vv, ll) ∧ a < lo.length ∧ EX g mbOf (Ev g d) I K Qr Qx nb w' (uc + (mbOf mid).1) (us + (mbOf mid).2) (h + 1) ((clr lo a).set a none) []
      | none => I.2.2.2 = [] ∧ Qx E w') (kr : ∀ v w', Qr' v w' → EX g mbOf (Ev g d) I K Qr Qx nb w' (uc + (mbOf mid).1) (us + (mbOf mid).2) (i + 1) lo (v.toList ++ st)) : EX g mbOf (Ev g d) I K Qr Qx nb w uc us i lo (a2 :: a1 :: a0 :: st) :=
  x_invO (as := [a0, a1, a2]) (rest := st) hK rfl rfl (Or.inr ⟨hst, hmid⟩) hw hr h1 h2 hc kr kx
theorem x_call10 {mid : Nat} {l : List Nat} {a0 a1 a2 a3 a4 a5 a6 a7 a8 a9 : Value} {Qr' : Option Value → aW → Prop} {Qx' : String → aW → Prop} (hc : Ev g d mid [a0, a1, a2, a3, a4, a5, a6, a7, a8, a9] w Qr' Qx') (hK : K[i]? = some (aV mid 10 l)) (hst : stW st ≤ 8) (hw : w.1 = N0 ∨ w.1 = nb + uc) (hr : rcvA g l w [a0, a1, a2, a3, a4, a5, a6, a7, a8, a9]) (h1 : uc + (mbOf mid).1 ≤ I.1) (h2 : us + (mbOf mid).2 ≤ I.2.1)
    (kx : ∀ E w', Qx' E w' → match hndA I.2.2.2 E i with
      | some h => ∃ a vv ll, K[h]? = some (45, a, 0, vv, ll) ∧ a < lo.length ∧ EX g mbOf (Ev g d) I K Qr Qx nb w' (uc + (mbOf mid).1) (us + (mbOf mid).2) (h + 1) ((clr lo a).set a none) []
      | none => I.2.2.2 = [] ∧ Qx E w') (kr : ∀ v w', Qr' v w' → EX g mbOf (Ev g d) I K Qr Qx nb w' (uc + (mbOf mid).1) (us + (mbOf mid).2) (i + 1) lo (v.toList ++ st)) : EX g mbOf (Ev g d) I K Qr Qx nb w uc us i lo (a9 :: a8 :: a7 :: a6 :: a5 :: a4 :: a3 :: a2 :: a1 :: a0 :: st) :=
  x_invO (as := [a0, a1, a2, a3, a4, a5, a6, a7, a8, a9]) (rest := st) hK rfl rfl (Or.inl hst) hw hr h1 h2 hc kr kx
end RULES3
section LAYS
variable {g : aG} {d : Nat} {w : aW} {m f : Nat → Int32} {A : Nat → Nat → Int32} {B : Nat → Nat → Int64}
theorem n_tries {a b ours th : Nat} {x0 y0 x1 y1 q sx sy : Int32} {bb : bS} (ho : f a = nI ours) (ht : f b = nI th) (ho8 : ours ≤ 8) (hm8 : th ≤ 8) (ha : a + 33 < 22176) (hb : b + 33 < 22176) (hM : BM m bb) (hn : w.1 = N0) : Ev g (d + 11) 227 [.ref 1424, .int (nI a), .int (nI b), .int x0, .int y0, .int x1, .int y1, .int q, .int sx, .int sy] (rW w m f A B) (triQ w m f A B (triV f a b ours th x0 y0 x1 y1 q sx sy bb)) noX := by
  refine ev_X11_tries ?_ (Nat.le_of_ble_eq_true rfl)
  refine x_lo (lo' := [some (.ref 1424), some (.int (nI a)), some (.int (nI b)), some (.int x0), some (.int y0), some (.int x1), some (.int y1), some (.int q), some (.int sx), some (.int sy), none, none, none, none, none, none, none, none]) rfl ?_
  refine x_al rfl rfl ?_
  refine x_get rfl (rw_md hn) (by exact rfl) ?_
  refine x_il rfl rfl ?_
  refine x_iaN rfl (by first | exact rw_md hn | exact rw_w hn | exact rw_A hn (by exact rfl) | exact rw_B2 hn | exact rw_B3 hn | assumption) (by omega) ?_
  rw [ho]
  refine x_is (lo' := [_, _, _, _, _, _, _, _, _, _, _, _, _, _, _, _, _, _]) rfl (Nat.le_of_ble_eq_true rfl) rfl ?_
  refine x_al rfl rfl ?_
  refine x_get rfl (rw_md hn) (by exact rfl) ?_
  refine x_il rfl rfl ?_
  refine x_iaN rfl (by first | exact rw_md hn | exact rw_w hn | exact rw_A hn (by exact rfl) | exact rw_B2 hn | exact rw_B3 hn | assumption) (by omega) ?_
  rw [ht]
  refine x_is (lo' := [_, _, _, _, _, _, _, _, _, _, _, _, _, _, _, _, _, _]) rfl (Nat.le_of_ble_eq_true rfl) rfl ?_
  refine x_c rfl ?_
  refine x_is (lo' := [_, _, _, _, _, _, _, _, _, _, _, _, _, _, _, _, _, _]) rfl (Nat.le_of_ble_eq_true rfl) rfl ?_
  refine x_c rfl ?_
  refine x_is (lo' := [_, _, _, _, _, _, _, _, _, _, _, _, _, _, _, _, _, _]) rfl (Nat.le_of_ble_eq_true rfl) rfl ?_
  refine x_c rfl ?_
  refine x_is (lo' := [_, _, _, _, _, _, _, _, _, _, _, _, _, _, _, _, _, _]) rfl (Nat.le_of_ble_eq_true rfl) rfl ?_
  have := n_tri1 (g := g) (d := d) (w := w) (m := m) (f := f) (A := A) (B := B) (a := a) (b := b) (x0 := x0) (y0 := y0) (x1 := x1) (y1 := y1) (q := q) (sx := sx) (sy := sy) ho8 hm8 ha hb hM hn 0 (Nat.zero_le _) none none none
  rw [show mayW (rowB f a b th q sx sy) (A 1430) 0 = A 1430 from rfl, udA_self] at this
  exact this
theorem n_lays {a b ours th : Nat} {x0 y0 x1 y1 : Int32} (ho : f a = nI ours) (ht : f b = nI th) (ho8 : ours ≤ 8) (hm8 : th ≤ 8) (ha : a + 33 < 22176) (hb : b + 33 < 22176) (hn : w.1 = N0) : Ev g (d + 12) 228 [.ref 1424, .int (nI a), .int (nI b), .int x0, .int y0, .int x1, .int y1] (rW w m f A B) (triQ w m f A B (layF f a b ours th x0 y0 x1 y1)) noX := by
  have loopQ : ∀ q, q ≤ 4 → ∀ M A' o8 o9 o10 o11, BM M (layQ f a b ours th x0 y0 x1 y1 (0, 1000, 0, 0, 0) q) → keepS m M → keepA A A' → EX g mbOf (Ev g (d + 11)) (infoOf 228) k_X11_lays (triQ w m f A B (layF f a b ours th x0 y0 x1 y1)) noX w.1 (rW w M f A' B) 0 0 17 [some (.ref 1424), some (.int (nI a)), some (.int (nI b)), some (.int x0), some (.int y0), some (.int x1), some (.int y1), some (.int (nI q)), o8, o9, o10, o11] [] := by
    refine downN 4 fun q hq ihq => ?_
    intro M A' o8 o9 o10 o11 hM hk hA
    refine x_il rfl rfl ?_
    refine x_c rfl ?_
    refine x_icgeN (y := 4) rfl (by omega) (fun c => ?_) (fun c => ?_)
    · refine x_al rfl rfl ?_
      refine x_get rfl (rw_md hn) (by exact rfl) ?_
      obtain rfl : q = 4 := by omega
      rw [hM.2.1]
      refine x_c rfl ?_
      unfold layF
      generalize layQ f a b ours th x0 y0 x1 y1 (0, 1000, 0, 0, 0) 4 = r at *
      obtain ⟨r1, r2, r3, r4, r5⟩ := r
      refine x_icne rfl (fun c2 => ?_) (fun c2 => ?_)
      · refine x_retv rfl (Nat.le_of_ble_eq_true rfl) (Nat.le_of_ble_eq_true rfl) rfl ?_
        exact ⟨rfl, M, A', rfl, by unfold layE; rw [if_neg c2]; exact hM, hk, hA⟩
      refine x_al rfl rfl ?_
      refine x_c rfl ?_
      refine x_putM rfl hn rfl rfl rfl rfl ?_
      refine x_retv rfl (Nat.le_of_ble_eq_true rfl) (Nat.le_of_ble_eq_true rfl) rfl ?_
      refine ⟨rfl, _, A', rfl, by unfold layE; rw [if_pos c2]; exact ⟨hM.1, rfl, hM.2.2.1, hM.2.2.2.1, hM.2.2.2.2⟩, fun k h1 h2 => ?_, hA⟩
      unfold upd
      rw [if_neg (fun h => h1 (by omega))]
      exact hk k h1 h2
    refine x_c rfl ?_
    refine x_is (lo' := [_, _, _, _, _, _, _, _, _, _, _, _]) rfl (Nat.le_of_ble_eq_true rfl) rfl ?_
    have ihq := ihq c
    generalize hL : layQ f a b ours th x0 y0 x1 y1 (0, 1000, 0, 0, 0) q = bq at *
    rw [show layQ f a b ours th x0 y0 x1 y1 (0, 1000, 0, 0, 0) (q + 1) = layI f a b ours th x0 y0 x1 y1 q bq ours by rw [← hL]; rfl] at ihq
    have loopI : ∀ i, i ≤ ours → ∀ M A' o9 o10 o11, BM M (layI f a b ours th x0 y0 x1 y1 q bq i) → keepS m M → keepA A A' → EX g mbOf (Ev g (d + 11)) (infoOf 228) k_X11_lays (triQ w m f A B (layF f a b ours th x0 y0 x1 y1)) noX w.1 (rW w M f A' B) 0 0 22 [some (.ref 1424), some (.int (nI a)), some (.int (nI b)), some (.int x0), some (.int y0), some (.int x1), some (.int y1), some (.int (nI q)), some (.int (nI i)), o9, o10, o11] [] := by
      refine downN ours fun i hi ihi => ?_
      intro M A' o9 o10 o11 hM hk hA
      refine x_il rfl rfl ?_
      refine x_al rfl rfl ?_
      refine x_get rfl (rw_md hn) (by exact rfl) ?_
      refine x_il rfl rfl ?_
      refine x_iaN rfl (by first | exact rw_md hn | exact rw_w hn | exact rw_A hn (by exact rfl) | exact rw_B2 hn | exact rw_B3 hn | assumption) (by omega) ?_
      rw [ho]
      refine x_icgeN rfl (by omega) (fun c3 => ?_) (fun c3 => ?_)
      · refine x_inc1 (lo' := [_, _, _, _, _, _, _, _, _, _, _, _]) rfl rfl rfl ?_
        refine x_go rfl ?_
        obtain rfl : i = ours := by omega
        exact ihq _ _ _ _ _ _ hM hk hA
      refine x_c rfl ?_
      refine x_is (lo' := [_, _, _, _, _, _, _, _, _, _, _, _]) rfl (Nat.le_of_ble_eq_true rfl) rfl ?_
      have ihi := ihi c3
      generalize hL2 : layI f a b ours th x0 y0 x1 y1 q bq i = bi at *
      rw [show layI f a b ours th x0 y0 x1 y1 q bq (i + 1) = layJ f a b ours th x0 y0 x1 y1 q i bi th by rw [← hL2]; rfl] at ihi
      have loopJ : ∀ j, j ≤ th → ∀ M A' o10 o11, BM M (layJ f a b ours th x0 y0 x1 y1 q i bi j) → keepS m M → keepA A A' → EX g mbOf (Ev g (d + 11)) (infoOf 228) k_X11_lays (triQ w m f A B (layF f a b ours th x0 y0 x1 y1)) noX w.1 (rW w M f A' B) 0 0 30 [some (.ref 1424), some (.int (nI a)), some (.int (nI b)), some (.int x0), some (.int y0), some (.int x1), some (.int y1), some (.int (nI q)), some (.int (nI i)), some (.int (nI j)), o10, o11] [] := by
        refine downN th fun j hj ihj => ?_
        intro M A' o10 o11 hM hk hA
        refine x_il rfl rfl ?_
        refine x_al rfl rfl ?_
        refine x_get rfl (rw_md hn) (by exact rfl) ?_
        refine x_il rfl rfl ?_
        refine x_iaN rfl (by first | exact rw_md hn | exact rw_w hn | exact rw_A hn (by exact rfl) | exact rw_B2 hn | exact rw_B3 hn | assumption) (by omega) ?_
        rw [ht]
        refine x_icgeN rfl (by omega) (fun c4 => ?_) (fun c4 => ?_)
        · refine x_inc1 (lo' := [_, _, _, _, _, _, _, _, _, _, _, _]) rfl rfl rfl ?_
          refine x_go rfl ?_
          obtain rfl : j = th := by omega
          exact ihi _ _ _ _ _ hM hk hA
        refine x_il rfl rfl ?_
        refine x_c rfl ?_
        refine x_addN (y := 1) rfl ?_
        refine x_c rfl ?_
        refine x_il rfl rfl ?_
        refine x_mulN (x := 4) rfl ?_
        refine x_addN rfl ?_
        refine x_is (lo' := [_, _, _, _, _, _, _, _, _, _, _, _]) rfl (Nat.le_of_ble_eq_true rfl) rfl ?_
        refine x_il rfl rfl ?_
        refine x_c rfl ?_
        refine x_addN (y := 1) rfl ?_
        refine x_c rfl ?_
        refine x_il rfl rfl ?_
        refine x_mulN (x := 4) rfl ?_
        refine x_addN rfl ?_
        refine x_is (lo' := [_, _, _, _, _, _, _, _, _, _, _, _]) rfl (Nat.le_of_ble_eq_true rfl) rfl ?_
        refine x_al rfl rfl ?_
        refine x_il rfl rfl ?_
        refine x_il rfl rfl ?_
        refine x_il rfl rfl ?_
        refine x_il rfl rfl ?_
        refine x_il rfl rfl ?_
        refine x_il rfl rfl ?_
        refine x_il rfl rfl ?_
        refine x_al rfl rfl ?_
        refine x_get rfl (rw_md hn) (by exact rfl) ?_
        refine x_il rfl rfl ?_
        refine x_iaN rfl (by first | exact rw_md hn | exact rw_w hn | exact rw_A hn (by exact rfl) | exact rw_B2 hn | exact rw_B3 hn | assumption) (by omega) ?_
        refine x_il rfl rfl ?_
        refine x_al rfl rfl ?_
        refine x_get rfl (rw_md hn) (by exact rfl) ?_
        refine x_il rfl rfl ?_
        refine x_iaN rfl (by first | exact rw_md hn | exact rw_w hn | exact rw_A hn (by exact rfl) | exact rw_B2 hn | exact rw_B3 hn | assumption) (by omega) ?_
        refine x_al rfl rfl ?_
        refine x_get rfl (rw_md hn) (by exact rfl) ?_
        refine x_il rfl rfl ?_
        refine x_c rfl ?_
        refine x_addN (y := 1) rfl ?_
        refine x_iaN rfl (by first | exact rw_md hn | exact rw_w hn | exact rw_A hn (by exact rfl) | exact rw_B2 hn | exact rw_B3 hn | assumption) (by omega) ?_
        refine x_call3W (m_turnedX) rfl (Nat.le_of_ble_eq_true rfl) (by decide) (Or.inl hn) trivial (Nat.le_of_ble_eq_true rfl) (Nat.le_of_ble_eq_true rfl) (fun E w9 hq => hq.elim) ?_
        rintro v9 w9 ⟨rfl, rfl⟩
        refine x_sub rfl ?_
        refine x_al rfl rfl ?_
        refine x_get rfl (rw_md hn) (by exact rfl) ?_
        refine x_il rfl rfl ?_
        refine x_c rfl ?_
        refine x_addN (y := 1) rfl ?_
        refine x_iaN rfl (by first | exact rw_md hn | exact rw_w hn | exact rw_A hn (by exact rfl) | exact rw_B2 hn | exact rw_B3 hn | assumption) (by omega) ?_
        refine x_il rfl rfl ?_
        refine x_al rfl rfl ?_
        refine x_get rfl (rw_md hn) (by exact rfl) ?_
        refine x_il rfl rfl ?_
        refine x_iaN rfl (by first | exact rw_md hn | exact rw_w hn | exact rw_A hn (by exact rfl) | exact rw_B2 hn | exact rw_B3 hn | assumption) (by omega) ?_
        refine x_al rfl rfl ?_
        refine x_get rfl (rw_md hn) (by exact rfl) ?_
        refine x_il rfl rfl ?_
        refine x_c rfl ?_
        refine x_addN (y := 1) rfl ?_
        refine x_iaN rfl (by first | exact rw_md hn | exact rw_w hn | exact rw_A hn (by exact rfl) | exact rw_B2 hn | exact rw_B3 hn | assumption) (by omega) ?_
        refine x_call3W (m_turnedY) rfl (Nat.le_of_ble_eq_true rfl) (by decide) (Or.inl hn) trivial (Nat.le_of_ble_eq_true rfl) (Nat.le_of_ble_eq_true rfl) (fun E w9 hq => hq.elim) ?_
        rintro v9 w9 ⟨rfl, rfl⟩
        refine x_sub rfl ?_
        refine x_call10 (n_tries ho ht ho8 hm8 ha hb hM hn) rfl (Nat.le_of_ble_eq_true rfl) (Or.inl (by first | exact hn | assumption)) (rcv_at (by first | exact rw_md hn | exact rw_w hn | exact rw_A hn (by exact rfl) | exact rw_B2 hn | exact rw_B3 hn | assumption) (by decide) (by decide)) (Nat.le_of_ble_eq_true rfl) (Nat.le_of_ble_eq_true rfl) (fun E w9 hq => hq.elim) ?_
        rintro v9 w9 ⟨rfl, M', A2, rfl, hM', hk', hA'⟩
        refine x_inc1 (lo' := [_, _, _, _, _, _, _, _, _, _, _, _]) rfl rfl rfl ?_
        refine x_go rfl ?_
        exact ihj c4 _ _ _ _ hM' (keepS_t hk hk') (keepA_t hA hA')
      exact loopJ 0 (Nat.zero_le _) _ _ _ _ hM hk hA
    exact loopI 0 (Nat.zero_le _) _ _ _ _ _ hM hk hA
  refine ev_X11_lays ?_ (Nat.le_of_ble_eq_true rfl)
  refine x_lo (lo' := [some (.ref 1424), some (.int (nI a)), some (.int (nI b)), some (.int x0), some (.int y0), some (.int x1), some (.int y1), none, none, none, none, none]) rfl ?_
  refine x_al rfl rfl ?_
  refine x_c rfl ?_
  refine x_putM rfl hn rfl rfl rfl rfl ?_
  refine x_al rfl rfl ?_
  refine x_c rfl ?_
  refine x_putM rfl hn rfl rfl rfl rfl ?_
  refine x_al rfl rfl ?_
  refine x_c rfl ?_
  refine x_putM rfl hn rfl rfl rfl rfl ?_
  refine x_al rfl rfl ?_
  refine x_c rfl ?_
  refine x_putM rfl hn rfl rfl rfl rfl ?_
  refine x_al rfl rfl ?_
  refine x_c rfl ?_
  refine x_putM rfl hn rfl rfl rfl rfl ?_
  refine x_c rfl ?_
  refine x_is (lo' := [_, _, _, _, _, _, _, _, _, _, _, _]) rfl (Nat.le_of_ble_eq_true rfl) rfl ?_
  refine loopQ 0 (by decide) _ _ _ _ _ _ ⟨rfl, rfl, rfl, rfl, rfl⟩ ?_ (fun _ _ _ => rfl)
  intro k h1 h2
  have h3 : k ≠ 13 := fun h => h1 (by omega)
  have h4 : k ≠ 14 := fun h => h1 (by omega)
  have h5 : k ≠ 15 := fun h => h1 (by omega)
  have h6 : k ≠ 16 := fun h => h1 (by omega)
  have h7 : k ≠ 17 := fun h => h1 (by omega)
  unfold upd
  rw [if_neg h7, if_neg h6, if_neg h5, if_neg h4, if_neg h3]
/-- mark k laid on print p -/
def layM (f : Nat → Int32) (k p ours th : Nat) : bS := layF f (5826 + 39 * k + 6) (5 + 97 * p + 64) ours th (f (5826 + 39 * k + 1)) (f (5826 + 39 * k + 1 + 1)) (f (5826 + 39 * k + 1 + 2)) (f (5826 + 39 * k + 1 + 3))
theorem n_laysMark {k p ours th : Nat} (hk : k < 20) (hp : p < 60) (ho : f (5826 + 39 * k + 6) = nI ours) (ht : f (5 + 97 * p + 64) = nI th) (ho8 : ours ≤ 8) (hm8 : th ≤ 8) (hn : w.1 = N0) : Ev g (d + 13) 229 [.ref 1424, .int (nI k), .int (nI p)] (rW w m f A B) (triQ w m f A B (layM f k p ours th)) noX := by
  refine ev_X11_laysMark ?_ (Nat.le_of_ble_eq_true rfl)
  refine x_lo (lo' := [some (.ref 1424), some (.int (nI k)), some (.int (nI p)), none]) rfl ?_
  refine x_il rfl rfl ?_
  refine x_c rfl ?_
  refine x_call2 (m_markAt (k := 1)) rfl (Nat.le_of_ble_eq_true rfl) (Or.inl (by first | exact hn | assumption)) trivial (Nat.le_of_ble_eq_true rfl) (Nat.le_of_ble_eq_true rfl) (fun E w9 hq => hq.elim) ?_
  rintro v9 w9 ⟨rfl, rfl⟩
  refine x_is (lo' := [_, _, _, _]) rfl (Nat.le_of_ble_eq_true rfl) rfl ?_
  refine x_al rfl rfl ?_
  refine x_il rfl rfl ?_
  refine x_c rfl ?_
  refine x_call2 (m_markAt (k := 6)) rfl (Nat.le_of_ble_eq_true rfl) (Or.inl (by first | exact hn | assumption)) trivial (Nat.le_of_ble_eq_true rfl) (Nat.le_of_ble_eq_true rfl) (fun E w9 hq => hq.elim) ?_
  rintro v9 w9 ⟨rfl, rfl⟩
  refine x_il rfl rfl ?_
  refine x_call1 (m_printAt) rfl (Nat.le_of_ble_eq_true rfl) (Or.inl (by first | exact hn | assumption)) trivial (Nat.le_of_ble_eq_true rfl) (Nat.le_of_ble_eq_true rfl) (fun E w9 hq => hq.elim) ?_
  rintro v9 w9 ⟨rfl, rfl⟩
  refine x_c rfl ?_
  refine x_addN (y := 64) rfl ?_
  refine x_al rfl rfl ?_
  refine x_get rfl (rw_md hn) (by exact rfl) ?_
  refine x_il rfl rfl ?_
  refine x_iaN rfl (by first | exact rw_md hn | exact rw_w hn | exact rw_A hn (by exact rfl) | exact rw_B2 hn | exact rw_B3 hn | assumption) (by omega) ?_
  refine x_al rfl rfl ?_
  refine x_get rfl (rw_md hn) (by exact rfl) ?_
  refine x_il rfl rfl ?_
  refine x_c rfl ?_
  refine x_addN (y := 1) rfl ?_
  refine x_iaN rfl (by first | exact rw_md hn | exact rw_w hn | exact rw_A hn (by exact rfl) | exact rw_B2 hn | exact rw_B3 hn | assumption) (by omega) ?_
  refine x_al rfl rfl ?_
  refine x_get rfl (rw_md hn) (by exact rfl) ?_
  refine x_il rfl rfl ?_
  refine x_c rfl ?_
  refine x_addN (y := 2) rfl ?_
  refine x_iaN rfl (by first | exact rw_md hn | exact rw_w hn | exact rw_A hn (by exact rfl) | exact rw_B2 hn | exact rw_B3 hn | assumption) (by omega) ?_
  refine x_al rfl rfl ?_
  refine x_get rfl (rw_md hn) (by exact rfl) ?_
  refine x_il rfl rfl ?_
  refine x_c rfl ?_
  refine x_addN (y := 3) rfl ?_
  refine x_iaN rfl (by first | exact rw_md hn | exact rw_w hn | exact rw_A hn (by exact rfl) | exact rw_B2 hn | exact rw_B3 hn | assumption) (by omega) ?_
  refine x_call7 (n_lays ho ht ho8 hm8 (by omega) (by omega) hn) rfl (Nat.le_of_ble_eq_true rfl) (Or.inl (by first | exact hn | assumption)) (rcv_at (by first | exact rw_md hn | exact rw_w hn | exact rw_A hn (by exact rfl) | exact rw_B2 hn | exact rw_B3 hn | assumption) (by decide) (by decide)) (Nat.le_of_ble_eq_true rfl) (Nat.le_of_ble_eq_true rfl) (fun E w9 hq => hq.elim) ?_
  rintro v9 w9 ⟨rfl, M', A2, rfl, hM', hk', hA'⟩
  refine x_retv rfl (Nat.le_of_ble_eq_true rfl) (Nat.le_of_ble_eq_true rfl) rfl ?_
  exact ⟨rfl, M', A2, rfl, hM', hk', hA'⟩
end LAYS
