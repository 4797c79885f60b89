/-! lays of the class: who may pair, pairs, points against; cw_ -/
/-- the turned sheet holds f's points at a, turned by t -/
def TuD (F A : Nat → Nat → Int32) (f : Nat → Int32) (a ours t : Nat) (x0 y0 x1 y1 : Int32) : Prop :=
  F 1397 4 = nI ours ∧ (F 1397 5 = minI (tX (nI t) x0 y0) (tX (nI t) x1 y1) ∧ F 1397 6 = minI (tY (nI t) x0 y0) (tY (nI t) x1 y1) ∧ F 1397 7 = maxI (tX (nI t) x0 y0) (tX (nI t) x1 y1) ∧ F 1397 8 = maxI (tY (nI t) x0 y0) (tY (nI t) x1 y1))
  ∧ ∀ i, i < ours → A 1398 i = tX (nI t) (f (a + 1 + 4 * i)) (f (a + 1 + 4 * i + 1)) ∧ A 1399 i = tY (nI t) (f (a + 1 + 4 * i)) (f (a + 1 + 4 * i + 1)) ∧ A 1400 i = f (a + 1 + 4 * i + 2) ∧ A 1401 i = (f (a + 1 + 4 * i + 3) + nI (4 * t)) &&& 15
/-- the sheet at l holds f's points at b -/
def LoD (F A : Nat → Nat → Int32) (f : Nat → Int32) (l b th : Nat) : Prop :=
  F l 4 = nI th ∧ ∀ j, j < th → A (l + 1) j = f (b + 1 + 4 * j) ∧ A (l + 2) j = f (b + 1 + 4 * j + 1) ∧ A (l + 3) j = f (b + 1 + 4 * j + 2) ∧ A (l + 4) j = f (b + 1 + 4 * j + 3)
section CALLS
variable {g : aG} {d : Nat} {w : aW} {F A : Nat → Nat → Int32} {L : Nat → Int64} {f : Nat → Int32}
theorem abs_m {x : Int32} : Ev g (d + 1) 334 [.int x] w (RetQ (absI x) w) noX := m_abs
/-- how many may pair with any -/
def lkN (row : Nat → Int32) : Nat → Nat := cn (fun i => !(row i == 0))
theorem mayP_c {a b t : Nat} {sx sy hd : Int32} (hh : hd = (f (a + 3) + nI (4 * t)) &&& 15) : mayP f a b (nI t) sx sy ↔ (absI (tX (nI t) (f a) (f (a + 1)) + sx - f b) ≤ f 1 ∧ absI (tY (nI t) (f a) (f (a + 1)) + sy - f (b + 1)) ≤ f 1) ∧ (f (a + 2) = f (b + 2) ∨ f (a + 2) = 2 ∨ f (b + 2) = 2) ∧ ((hd - f (b + 3)) &&& 15 ≤ 1 ∨ (hd - f (b + 3)) &&& 15 = 15) := by
  have e : fMod (f (a + 3) + 4 * nI t - f (b + 3)) 16 = (hd - f (b + 3)) &&& 15 := by
    rw [hh, and15_in, fMod_16, show (4 : Int32) * nI t = nI (4 * t) from pk_mul 4 t]
  have h2 : ∀ x : Int32, x < 2 ↔ x ≤ 1 := fun x => by
    rw [Int32.lt_iff_toInt_lt, Int32.le_iff_toInt_le]
    show x.toInt < 2 ↔ x.toInt ≤ 1
    omega
  unfold mayP
  rw [e, h2]
  constructor
  · rintro ⟨h1, h2, h3, h4⟩
    exact ⟨⟨h2, h3⟩, h1, h4⟩
  · rintro ⟨⟨h2, h3⟩, h1, h4⟩
    exact ⟨h1, h2, h3, h4⟩
theorem c_linkMates {l a b ours th t : Nat} {x0 y0 x1 y1 sx sy : Int32} (hl : ShAt l) (hd : l + 4 < 1396) (hT : TuD F A f a ours t x0 y0 x1 y1) (hL : LoD F A f l b th) (ho8 : ours ≤ 8) (hm8 : th ≤ 8) (hn : w.1 = N0) : Ev g (d + 2) 23 [.ref 1396, .ref l, .int (f 1), .int sx, .int sy] (cW w F A L) (RetQ (nI (lkN (rowB f a b th (nI t) sx sy) ours)) (cW w F (udA A 1402 (mayW (rowB f a b th (nI t) sx sy) (A 1402) ours)) L)) noX := by
  obtain ⟨t4, tr, ta⟩ := hT
  obtain ⟨l4, la⟩ := hL
  have loop : ∀ i, i ≤ ours → ∀ l7 l8 l9 l10 l11, EX g mbOf (Ev g (d + 1)) (infoOf 23) k_X2_linkMates (RetQ (nI (lkN (rowB f a b th (nI t) sx sy) ours)) (cW w F (udA A 1402 (mayW (rowB f a b th (nI t) sx sy) (A 1402) ours)) L)) noX w.1 (cW w F (udA A 1402 (mayW (rowB f a b th (nI t) sx sy) (A 1402) i)) L) 0 0 4 [some (.ref 1396), some (.ref l), some (.int (f 1)), some (.int sx), some (.int sy), some (.int (nI (lkN (rowB f a b th (nI t) sx sy) i))), some (.int (nI i)), l7, l8, l9, l10, l11] [] := by
    refine downN ours fun i hi ih => ?_
    intro l7 l8 l9 l10 l11
    have hcn := cn_le (fun i => !(rowB f a b th (nI t) sx sy i == 0)) i
    have hMW2 : mayW (rowB f a b th (nI t) sx sy) (A 1402) (i + 1) = upd (mayW (rowB f a b th (nI t) sx sy) (A 1402) i) i (rowB f a b th (nI t) sx sy i) := rfl
    generalize hMW : mayW (rowB f a b th (nI t) sx sy) (A 1402) i = MW at *
    refine x_il rfl rfl ?_
    refine x_al rfl rfl ?_
    refine x_getC rfl hn (by with_reducible exact sp_1396) (by exact rfl) ?_
    refine x_getC rfl hn (by with_reducible exact sh_0 (by first | assumption | exact sh_turned | exact pr_sh (by first | assumption | exact prA (by omega) | exact prD | exact prB (by assumption) (by omega)) | exact ma_sh (by first | assumption | exact maA (by omega) | exact maB (by assumption) (by omega)))) (by exact rfl) ?_
    rw [t4]
    refine x_icgeN rfl (by omega) (fun c => ?_) (fun c => ?_)
    · refine x_il rfl rfl ?_
      refine x_reti rfl (Nat.le_of_ble_eq_true rfl) (Nat.le_of_ble_eq_true rfl) rfl ?_
      obtain rfl : i = ours := by omega
      exact ⟨rfl, by rw [← hMW]⟩
    refine x_c rfl ?_
    refine x_is (lo' := [_, _, _, _, _, _, _, _, _, _, _, _]) rfl (Nat.le_of_ble_eq_true rfl) rfl ?_
    refine x_c rfl ?_
    refine x_is (lo' := [_, _, _, _, _, _, _, _, _, _, _, _]) rfl (Nat.le_of_ble_eq_true rfl) rfl ?_
    obtain ⟨ax, ay, ak, ah⟩ := ta i c
    have inner : ∀ j, j ≤ th → ∀ l9 l10 l11, EX g mbOf (Ev g (d + 1)) (infoOf 23) k_X2_linkMates (RetQ (nI (lkN (rowB f a b th (nI t) sx sy) ours)) (cW w F (udA A 1402 (mayW (rowB f a b th (nI t) sx sy) (A 1402) ours)) L)) noX w.1 (cW w F (udA A 1402 MW) L) 0 0 13 [some (.ref 1396), some (.ref l), some (.int (f 1)), some (.int sx), some (.int sy), some (.int (nI (lkN (rowB f a b th (nI t) sx sy) i))), some (.int (nI i)), some (.int (bitsF (fun j => decide (mayP f (a + 1 + 4 * i) (b + 1 + 4 * j) (nI t) sx sy)) j)), some (.int (nI j)), l9, l10, l11] [] := by
      refine downN th fun j hj ihj => ?_
      intro l9 l10 l11
      refine x_il rfl rfl ?_
      refine x_al rfl rfl ?_
      refine x_getC rfl hn (by with_reducible exact sh_0 (by first | assumption | exact sh_turned | exact pr_sh (by first | assumption | exact prA (by omega) | exact prD | exact prB (by assumption) (by omega)) | exact ma_sh (by first | assumption | exact maA (by omega) | exact maB (by assumption) (by omega)))) (by exact rfl) ?_
      rw [l4]
      refine x_icgeN rfl (by omega) (fun c2 => ?_) (fun c2 => ?_)
      · refine x_al rfl rfl ?_
        refine x_getC rfl hn (by with_reducible exact sp_1396) (by exact rfl) ?_
        refine x_il rfl rfl ?_
        refine x_il rfl rfl ?_
        refine x_iasC rfl hn (by with_reducible exact sp_1402) (by omega) ?_
        refine x_il rfl rfl ?_
        refine x_il rfl rfl ?_
        obtain rfl : j = th := by omega
        rw [show bitsF (fun k => decide (mayP f (a + 1 + 4 * i) (b + 1 + 4 * k) (nI t) sx sy)) j = rowB f a b j (nI t) sx sy i from rfl]
        have ih := ih c
        rw [udA_t, udA_udA, ← hMW2]
        refine x_ifne rfl (fun c3 => ?_) (fun c3 => ?_)
        rotate_left
        · refine x_c rfl ?_
          refine x_go rfl ?_
          refine x_addN (y := 0) rfl ?_
          refine x_is (lo' := [_, _, _, _, _, _, _, _, _, _, _, _]) rfl (Nat.le_of_ble_eq_true rfl) rfl ?_
          refine x_inc1 (lo' := [_, _, _, _, _, _, _, _, _, _, _, _]) rfl rfl rfl ?_
          refine x_go rfl ?_
          rw [show lkN (rowB f a b j (nI t) sx sy) (i + 1) = lkN (rowB f a b j (nI t) sx sy) i from cn_f (by simp [c3])] at ih
          exact ih _ _ _ _ _
        refine x_c rfl ?_
        refine x_addN (y := 1) rfl ?_
        refine x_is (lo' := [_, _, _, _, _, _, _, _, _, _, _, _]) rfl (Nat.le_of_ble_eq_true rfl) rfl ?_
        refine x_inc1 (lo' := [_, _, _, _, _, _, _, _, _, _, _, _]) rfl rfl rfl ?_
        refine x_go rfl ?_
        rw [show lkN (rowB f a b j (nI t) sx sy) (i + 1) = lkN (rowB f a b j (nI t) sx sy) i + 1 from cn_t (by simpa using c3)] at ih
        exact ih _ _ _ _ _
      refine x_al rfl rfl ?_
      refine x_getC rfl hn (by with_reducible exact sp_1396) (by exact rfl) ?_
      refine x_getC rfl hn (by with_reducible exact sh_0 (by first | assumption | exact sh_turned | exact pr_sh (by first | assumption | exact prA (by omega) | exact prD | exact prB (by assumption) (by omega)) | exact ma_sh (by first | assumption | exact maA (by omega) | exact maB (by assumption) (by omega)))) (by exact rfl) ?_
      refine x_il rfl rfl ?_
      refine x_iaC rfl hn (by with_reducible exact sh_1 (by first | assumption | exact sh_turned | exact pr_sh (by first | assumption | exact prA (by omega) | exact prD | exact prB (by assumption) (by omega)) | exact ma_sh (by first | assumption | exact maA (by omega) | exact maB (by assumption) (by omega)))) (by omega) ?_
      refine x_il rfl rfl ?_
      refine x_add rfl ?_
      refine x_al rfl rfl ?_
      refine x_getC rfl hn (by with_reducible exact sh_0 (by first | assumption | exact sh_turned | exact pr_sh (by first | assumption | exact prA (by omega) | exact prD | exact prB (by assumption) (by omega)) | exact ma_sh (by first | assumption | exact maA (by omega) | exact maB (by assumption) (by omega)))) (by exact rfl) ?_
      refine x_il rfl rfl ?_
      refine x_iaC rfl hn (by with_reducible exact sh_1 (by first | assumption | exact sh_turned | exact pr_sh (by first | assumption | exact prA (by omega) | exact prD | exact prB (by assumption) (by omega)) | exact ma_sh (by first | assumption | exact maA (by omega) | exact maB (by assumption) (by omega)))) (by omega) ?_
      refine x_sub rfl ?_
      obtain ⟨bx, by_, bk, bh⟩ := la j c2
      have hP := mayP_c (f := f) (a := a + 1 + 4 * i) (b := b + 1 + 4 * j) (t := t) (sx := sx) (sy := sy) ah
      have hbs : bitsF (fun j => decide (mayP f (a + 1 + 4 * i) (b + 1 + 4 * j) (nI t) sx sy)) (j + 1) = bitsF (fun j => decide (mayP f (a + 1 + 4 * i) (b + 1 + 4 * j) (nI t) sx sy)) j ||| (if decide (mayP f (a + 1 + 4 * i) (b + 1 + 4 * j) (nI t) sx sy) = true then 1 <<< (nI j &&& 31) else 0) := rfl
      have ihj := ihj c2
      rw [hbs] at ihj
      generalize bitsF (fun j => decide (mayP f (a + 1 + 4 * i) (b + 1 + 4 * j) (nI t) sx sy)) j = bs at *
      have no : ¬ mayP f (a + 1 + 4 * i) (b + 1 + 4 * j) (nI t) sx sy → ∀ l9 l10 l11, EX g mbOf (Ev g (d + 1)) (infoOf 23) k_X2_linkMates (RetQ (nI (lkN (rowB f a b th (nI t) sx sy) ours)) (cW w F (udA A 1402 (mayW (rowB f a b th (nI t) sx sy) (A 1402) ours)) L)) noX w.1 (cW w F (udA A 1402 MW) L) 0 0 107 [some (.ref 1396), some (.ref l), some (.int (f 1)), some (.int sx), some (.int sy), some (.int (nI (lkN (rowB f a b th (nI t) sx sy) i))), some (.int (nI i)), some (.int bs), some (.int (nI j)), l9, l10, l11] [] := by
        intro hm l9 l10 l11
        rw [if_neg (by rw [decide_eq_true_iff]; exact hm), Int32.or_zero] at ihj
        refine x_inc1 (lo' := [_, _, _, _, _, _, _, _, _, _, _, _]) rfl rfl rfl ?_
        refine x_go rfl ?_
        exact ihj _ _ _
      have yes : mayP f (a + 1 + 4 * i) (b + 1 + 4 * j) (nI t) sx sy → ∀ l9 l10 l11, EX g mbOf (Ev g (d + 1)) (infoOf 23) k_X2_linkMates (RetQ (nI (lkN (rowB f a b th (nI t) sx sy) ours)) (cW w F (udA A 1402 (mayW (rowB f a b th (nI t) sx sy) (A 1402) ours)) L)) noX w.1 (cW w F (udA A 1402 MW) L) 0 0 101 [some (.ref 1396), some (.ref l), some (.int (f 1)), some (.int sx), some (.int sy), some (.int (nI (lkN (rowB f a b th (nI t) sx sy) i))), some (.int (nI i)), some (.int bs), some (.int (nI j)), l9, l10, l11] [] := by
        intro hm l9 l10 l11
        rw [if_pos (by rw [decide_eq_true_iff]; exact hm)] at ihj
        refine x_il rfl rfl ?_
        refine x_c rfl ?_
        refine x_il rfl rfl ?_
        refine x_shl rfl ?_
        refine x_or rfl ?_
        refine x_is (lo' := [_, _, _, _, _, _, _, _, _, _, _, _]) rfl (Nat.le_of_ble_eq_true rfl) rfl ?_
        refine x_inc1 (lo' := [_, _, _, _, _, _, _, _, _, _, _, _]) rfl rfl rfl ?_
        refine x_go rfl ?_
        exact ihj _ _ _
      have ax : udA A 1402 MW (1397 + 1) i = _ := ax
      have ay : udA A 1402 MW (1397 + 2) i = _ := ay
      have ak : udA A 1402 MW (1397 + 3) i = _ := ak
      have bx : udA A 1402 MW (l + 1) j = f (b + 1 + 4 * j) := by rw [udA_ne (by omega)]; exact bx
      have by_ : udA A 1402 MW (l + 2) j = f (b + 1 + 4 * j + 1) := by rw [udA_ne (by omega)]; exact by_
      have bk : udA A 1402 MW (l + 3) j = f (b + 1 + 4 * j + 2) := by rw [udA_ne (by omega)]; exact bk
      have bh : udA A 1402 MW (l + 4) j = f (b + 1 + 4 * j + 3) := by rw [udA_ne (by omega)]; exact bh
      generalize hNr : (absI (tX (nI t) (f (a + 1 + 4 * i)) (f (a + 1 + 4 * i + 1)) + sx - f (b + 1 + 4 * j)) ≤ f 1 ∧ absI (tY (nI t) (f (a + 1 + 4 * i)) (f (a + 1 + 4 * i + 1)) + sy - f (b + 1 + 4 * j + 1)) ≤ f 1) = near at hP
      generalize hKd : (f (a + 1 + 4 * i + 2) = f (b + 1 + 4 * j + 2) ∨ f (a + 1 + 4 * i + 2) = 2 ∨ f (b + 1 + 4 * j + 2) = 2) = kind at hP
      have tail2 : ∀ n k : Bool, (n = true ↔ near) → (k = true ↔ kind) → ∀ l10 l11, EX g mbOf (Ev g (d + 1)) (infoOf 23) k_X2_linkMates (RetQ (nI (lkN (rowB f a b th (nI t) sx sy) ours)) (cW w F (udA A 1402 (mayW (rowB f a b th (nI t) sx sy) (A 1402) ours)) L)) noX w.1 (cW w F (udA A 1402 MW) L) 0 0 77 [some (.ref 1396), some (.ref l), some (.int (f 1)), some (.int sx), some (.int sy), some (.int (nI (lkN (rowB f a b th (nI t) sx sy) i))), some (.int (nI i)), some (.int bs), some (.int (nI j)), some (.int (bI n)), l10, l11] [.int (bI k)] := by
        intro n k hnn hk l10 l11
        refine x_is (lo' := [_, _, _, _, _, _, _, _, _, _, _, _]) rfl (Nat.le_of_ble_eq_true rfl) rfl ?_
        refine x_al rfl rfl ?_
        refine x_getC rfl hn (by with_reducible exact sp_1396) (by exact rfl) ?_
        refine x_getC rfl hn (by with_reducible exact sh_0 (by first | assumption | exact sh_turned | exact pr_sh (by first | assumption | exact prA (by omega) | exact prD | exact prB (by assumption) (by omega)) | exact ma_sh (by first | assumption | exact maA (by omega) | exact maB (by assumption) (by omega)))) (by exact rfl) ?_
        refine x_il rfl rfl ?_
        refine x_iaC rfl hn (by with_reducible exact sh_4 (by first | assumption | exact sh_turned | exact pr_sh (by first | assumption | exact prA (by omega) | exact prD | exact prB (by assumption) (by omega)) | exact ma_sh (by first | assumption | exact maA (by omega) | exact maB (by assumption) (by omega)))) (by omega) ?_
        refine x_al rfl rfl ?_
        refine x_getC rfl hn (by with_reducible exact sh_0 (by first | assumption | exact sh_turned | exact pr_sh (by first | assumption | exact prA (by omega) | exact prD | exact prB (by assumption) (by omega)) | exact ma_sh (by first | assumption | exact maA (by omega) | exact maB (by assumption) (by omega)))) (by exact rfl) ?_
        refine x_il rfl rfl ?_
        refine x_iaC rfl hn (by with_reducible exact sh_4 (by first | assumption | exact sh_turned | exact pr_sh (by first | assumption | exact prA (by omega) | exact prD | exact prB (by assumption) (by omega)) | exact ma_sh (by first | assumption | exact maA (by omega) | exact maB (by assumption) (by omega)))) (by omega) ?_
        refine x_sub rfl ?_
        refine x_c rfl ?_
        refine x_and rfl ?_
        refine x_is (lo' := [_, _, _, _, _, _, _, _, _, _, _, _]) rfl (Nat.le_of_ble_eq_true rfl) rfl ?_
        refine x_il rfl rfl ?_
        rw [bh, show udA A 1402 MW (1397 + 4) i = A 1401 i from rfl]
        refine x_ifeq rfl (fun c3 => ?_) (fun c3 => ?_)
        · skip
          exact no (fun h => absurd (hnn.mpr (hP.mp h).1) (by rw [bI_z.mp c3]; decide)) _ _ _
        refine x_il rfl rfl ?_
        refine x_ifeq rfl (fun c4 => ?_) (fun c4 => ?_)
        · skip
          exact no (fun h => absurd (hk.mpr (hP.mp h).2.1) (by rw [bI_z.mp c4]; decide)) _ _ _
        refine x_il rfl rfl ?_
        refine x_c rfl ?_
        have n1 : n = true := by cases n with
          | true => rfl
          | false => exact absurd rfl c3
        have k1 : k = true := by cases k with
          | true => rfl
          | false => exact absurd rfl c4
        refine x_icle rfl (fun c5 => ?_) (fun c5 => ?_)
        · skip
          exact yes (hP.mpr ⟨hnn.mp n1, hk.mp k1, Or.inl c5⟩) _ _ _
        refine x_il rfl rfl ?_
        refine x_c rfl ?_
        refine x_icne rfl (fun c6 => ?_) (fun c6 => ?_)
        · skip
          exact no (fun h => (hP.mp h).2.2.elim c5 c6) _ _ _
        exact yes (hP.mpr ⟨hnn.mp n1, hk.mp k1, Or.inr c6⟩) _ _ _
      have tail1 : ∀ n : Bool, (n = true ↔ near) → ∀ l9 l10 l11, EX g mbOf (Ev g (d + 1)) (infoOf 23) k_X2_linkMates (RetQ (nI (lkN (rowB f a b th (nI t) sx sy) ours)) (cW w F (udA A 1402 (mayW (rowB f a b th (nI t) sx sy) (A 1402) ours)) L)) noX w.1 (cW w F (udA A 1402 MW) L) 0 0 50 [some (.ref 1396), some (.ref l), some (.int (f 1)), some (.int sx), some (.int sy), some (.int (nI (lkN (rowB f a b th (nI t) sx sy) i))), some (.int (nI i)), some (.int bs), some (.int (nI j)), l9, l10, l11] [.int (bI n)] := by
        intro n hnn l9 l10 l11
        refine x_is (lo' := [_, _, _, _, _, _, _, _, _, _, _, _]) rfl (Nat.le_of_ble_eq_true rfl) rfl ?_
        refine x_al rfl rfl ?_
        refine x_getC rfl hn (by with_reducible exact sp_1396) (by exact rfl) ?_
        refine x_getC rfl hn (by with_reducible exact sh_0 (by first | assumption | exact sh_turned | exact pr_sh (by first | assumption | exact prA (by omega) | exact prD | exact prB (by assumption) (by omega)) | exact ma_sh (by first | assumption | exact maA (by omega) | exact maB (by assumption) (by omega)))) (by exact rfl) ?_
        refine x_il rfl rfl ?_
        refine x_iaC rfl hn (by with_reducible exact sh_3 (by first | assumption | exact sh_turned | exact pr_sh (by first | assumption | exact prA (by omega) | exact prD | exact prB (by assumption) (by omega)) | exact ma_sh (by first | assumption | exact maA (by omega) | exact maB (by assumption) (by omega)))) (by omega) ?_
        refine x_al rfl rfl ?_
        refine x_getC rfl hn (by with_reducible exact sh_0 (by first | assumption | exact sh_turned | exact pr_sh (by first | assumption | exact prA (by omega) | exact prD | exact prB (by assumption) (by omega)) | exact ma_sh (by first | assumption | exact maA (by omega) | exact maB (by assumption) (by omega)))) (by exact rfl) ?_
        refine x_il rfl rfl ?_
        refine x_iaC rfl hn (by with_reducible exact sh_3 (by first | assumption | exact sh_turned | exact pr_sh (by first | assumption | exact prA (by omega) | exact prD | exact prB (by assumption) (by omega)) | exact ma_sh (by first | assumption | exact maA (by omega) | exact maB (by assumption) (by omega)))) (by omega) ?_
        rw [ak, bk]
        refine x_iceq rfl (fun c3 => ?_) (fun c3 => ?_)
        · refine x_c rfl ?_
          refine x_go rfl ?_
          exact tail2 n true hnn (by rw [← hKd]; exact ⟨fun _ => Or.inl c3, fun _ => rfl⟩) _ _
        refine x_al rfl rfl ?_
        refine x_getC rfl hn (by with_reducible exact sp_1396) (by exact rfl) ?_
        refine x_getC rfl hn (by with_reducible exact sh_0 (by first | assumption | exact sh_turned | exact pr_sh (by first | assumption | exact prA (by omega) | exact prD | exact prB (by assumption) (by omega)) | exact ma_sh (by first | assumption | exact maA (by omega) | exact maB (by assumption) (by omega)))) (by exact rfl) ?_
        refine x_il rfl rfl ?_
        refine x_iaC rfl hn (by with_reducible exact sh_3 (by first | assumption | exact sh_turned | exact pr_sh (by first | assumption | exact prA (by omega) | exact prD | exact prB (by assumption) (by omega)) | exact ma_sh (by first | assumption | exact maA (by omega) | exact maB (by assumption) (by omega)))) (by omega) ?_
        refine x_c rfl ?_
        rw [ak]
        refine x_iceq rfl (fun c4 => ?_) (fun c4 => ?_)
        · refine x_c rfl ?_
          refine x_go rfl ?_
          exact tail2 n true hnn (by rw [← hKd]; exact ⟨fun _ => Or.inr (Or.inl c4), fun _ => rfl⟩) _ _
        refine x_al rfl rfl ?_
        refine x_getC rfl hn (by with_reducible exact sh_0 (by first | assumption | exact sh_turned | exact pr_sh (by first | assumption | exact prA (by omega) | exact prD | exact prB (by assumption) (by omega)) | exact ma_sh (by first | assumption | exact maA (by omega) | exact maB (by assumption) (by omega)))) (by exact rfl) ?_
        refine x_il rfl rfl ?_
        refine x_iaC rfl hn (by with_reducible exact sh_3 (by first | assumption | exact sh_turned | exact pr_sh (by first | assumption | exact prA (by omega) | exact prD | exact prB (by assumption) (by omega)) | exact ma_sh (by first | assumption | exact maA (by omega) | exact maB (by assumption) (by omega)))) (by omega) ?_
        refine x_c rfl ?_
        rw [bk]
        refine x_icne rfl (fun c5 => ?_) (fun c5 => ?_)
        · refine x_c rfl ?_
          exact tail2 n false hnn (by rw [← hKd]; exact ⟨(fun h => absurd h (by decide)), fun h => h.elim (fun h => absurd h c3) (fun h => h.elim (fun h => absurd h c4) (fun h => absurd h c5))⟩) _ _
        refine x_c rfl ?_
        refine x_go rfl ?_
        exact tail2 n true hnn (by rw [← hKd]; exact ⟨fun _ => Or.inr (Or.inr c5), fun _ => rfl⟩) _ _
      rw [ax, bx]
      refine x_call1 (abs_m) rfl (Nat.le_of_ble_eq_true rfl) (Or.inl (by first | exact hn | assumption)) trivial (Nat.le_of_ble_eq_true rfl) (Nat.le_of_ble_eq_true rfl) (fun E w9 hq => hq.elim) ?_
      rintro v9 w9 ⟨rfl, rfl⟩
      refine x_il rfl rfl ?_
      refine x_icgt rfl (fun c3 => ?_) (fun c3 => ?_)
      · refine x_c rfl ?_
        exact tail1 false (by rw [← hNr]; exact ⟨(fun h => absurd h (by decide)), fun h => absurd h.1 (Int32.not_le.mpr c3)⟩) _ _ _
      refine x_al rfl rfl ?_
      refine x_getC rfl hn (by with_reducible exact sp_1396) (by exact rfl) ?_
      refine x_getC rfl hn (by with_reducible exact sh_0 (by first | assumption | exact sh_turned | exact pr_sh (by first | assumption | exact prA (by omega) | exact prD | exact prB (by assumption) (by omega)) | exact ma_sh (by first | assumption | exact maA (by omega) | exact maB (by assumption) (by omega)))) (by exact rfl) ?_
      refine x_il rfl rfl ?_
      refine x_iaC rfl hn (by with_reducible exact sh_2 (by first | assumption | exact sh_turned | exact pr_sh (by first | assumption | exact prA (by omega) | exact prD | exact prB (by assumption) (by omega)) | exact ma_sh (by first | assumption | exact maA (by omega) | exact maB (by assumption) (by omega)))) (by omega) ?_
      refine x_il rfl rfl ?_
      refine x_add rfl ?_
      refine x_al rfl rfl ?_
      refine x_getC rfl hn (by with_reducible exact sh_0 (by first | assumption | exact sh_turned | exact pr_sh (by first | assumption | exact prA (by omega) | exact prD | exact prB (by assumption) (by omega)) | exact ma_sh (by first | assumption | exact maA (by omega) | exact maB (by assumption) (by omega)))) (by exact rfl) ?_
      refine x_il rfl rfl ?_
      refine x_iaC rfl hn (by with_reducible exact sh_2 (by first | assumption | exact sh_turned | exact pr_sh (by first | assumption | exact prA (by omega) | exact prD | exact prB (by assumption) (by omega)) | exact ma_sh (by first | assumption | exact maA (by omega) | exact maB (by assumption) (by omega)))) (by omega) ?_
      refine x_sub rfl ?_
      rw [ay, by_]
      refine x_call1 (abs_m) rfl (Nat.le_of_ble_eq_true rfl) (Or.inl (by first | exact hn | assumption)) trivial (Nat.le_of_ble_eq_true rfl) (Nat.le_of_ble_eq_true rfl) (fun E w9 hq => hq.elim) ?_
      rintro v9 w9 ⟨rfl, rfl⟩
      refine x_il rfl rfl ?_
      refine x_icgt rfl (fun c4 => ?_) (fun c4 => ?_)
      · refine x_c rfl ?_
        exact tail1 false (by rw [← hNr]; exact ⟨(fun h => absurd h (by decide)), fun h => absurd h.2 (Int32.not_le.mpr c4)⟩) _ _ _
      refine x_c rfl ?_
      refine x_go rfl ?_
      exact tail1 true (by rw [← hNr]; exact ⟨fun _ => ⟨Int32.not_lt.mp c3, Int32.not_lt.mp c4⟩, fun _ => rfl⟩) _ _ _
    exact inner 0 (Nat.zero_le _) _ _ _
  refine ev_X2_linkMates ?_ (Nat.le_of_ble_eq_true rfl)
  refine x_lo (lo' := [some (.ref 1396), some (.ref l), some (.int (f 1)), some (.int sx), some (.int sy), none, none, none, none, none, none, none]) rfl ?_
  refine x_c rfl ?_
  refine x_is (lo' := [_, _, _, _, _, _, _, _, _, _, _, _]) rfl (Nat.le_of_ble_eq_true rfl) rfl ?_
  refine x_c rfl ?_
  refine x_is (lo' := [_, _, _, _, _, _, _, _, _, _, _, _]) rfl (Nat.le_of_ble_eq_true rfl) rfl ?_
  have := loop 0 (Nat.zero_le _) none none none none none
  rw [show mayW (rowB f a b th (nI t) sx sy) (A 1402) 0 = A 1402 from rfl, udA_self] at this
  exact this
end CALLS
