/-! lays of the class: find; cw_ -/
section CALLS
variable {g : aG} {d : Nat} {w : aW} {F A : Nat → Nat → Int32} {L : Nat → Int64} {f : Nat → Int32}
theorem layJ_s {f : Nat → Int32} {a b ours th q i j : Nat} {x0 y0 x1 y1 : Int32} {bb : bS} : layJ f a b ours th x0 y0 x1 y1 q i bb (j + 1) = triV f a b ours th x0 y0 x1 y1 (nI q) (sxF f a b q i j) (syF f a b q i j) (layJ f a b ours th x0 y0 x1 y1 q i bb j) := rfl
theorem layI_s {f : Nat → Int32} {a b ours th q i : Nat} {x0 y0 x1 y1 : Int32} {bb : bS} : layI f a b ours th x0 y0 x1 y1 q bb (i + 1) = layJ f a b ours th x0 y0 x1 y1 q i (layI f a b ours th x0 y0 x1 y1 q bb i) th := rfl
theorem layQ_s {f : Nat → Int32} {a b ours th q : Nat} {x0 y0 x1 y1 : Int32} {bb : bS} : layQ f a b ours th x0 y0 x1 y1 bb (q + 1) = layI f a b ours th x0 y0 x1 y1 q (layQ f a b ours th x0 y0 x1 y1 bb q) ours := rfl
/-- where the search stands: the best so far; nothing but the search's own rows changed -/
def LfI (F A F1 A1 : Nat → Nat → Int32) (bb : bS) : Prop := LyS (F1 1396) bb ∧ F1 1396 11 = F 1396 11 ∧ (∀ q, q ≠ 1396 → q ≠ 1397 → F1 q = F q) ∧ ∀ q, (q < 1398 ∨ 1404 ≤ q) → A1 q = A q
theorem TuD.ofI {F1 A1 A' : Nat → Nat → Int32} {h : Nat → Int32} {f : Nat → Int32} {u a ours t : Nat} {x0 y0 x1 y1 : Int32} (hI : TuI F1 A1 h A' 1397 u ours t) (hL : LoD F1 A1 f u a ours) (hr : F1 u 5 = x0 ∧ F1 u 6 = y0 ∧ F1 u 7 = x1 ∧ F1 u 8 = y1) : TuD (udA F1 1397 h) A' f a ours t x0 y0 x1 y1 := by
  obtain ⟨h4, ⟨h5, h6, h7, h8⟩, hj, _⟩ := hI
  obtain ⟨r5, r6, r7, r8⟩ := hr
  rw [r5, r6, r7, r8] at h5 h6 h7 h8
  unfold TuD
  rw [udA_t]
  refine ⟨h4, ⟨h5, h6, h7, h8⟩, fun i hi => ?_⟩
  obtain ⟨e1, e2, e3, e4⟩ := hj i hi
  obtain ⟨l1, l2, l3, l4⟩ := hL.2 i hi
  rw [l1, l2] at e1 e2
  rw [l3] at e3
  rw [l4] at e4
  exact ⟨e1, e2, e3, e4⟩
/-- what find leaves: the best lay, kept or not -/
def fiQ (w : aW) (F A : Nat → Nat → Int32) (L : Nat → Int64) (key : Nat) (R : bS) : Option Value → aW → Prop := fun v w' => v = none ∧ ∃ F' A', w' = cW w F' A' L ∧ BL (F' 1396) R ∧ F' 1396 11 = F 1396 11 ∧ (∀ q, q ≠ 1396 → q ≠ 1397 → F' q = F q) ∧ (∀ q, (q < 1398 ∨ 1405 ≤ q) → A' q = A q) ∧ (A' 1404 = A 1404 ∨ A' 1404 = kpW (A 1404) (key * 6) (F 1396 11) R)
theorem c_find {u l a b ours th key : Nat} {x0 y0 x1 y1 : Int32} (hu : ShAt u) (hl : ShAt l) (hd : l + 4 < 1396) (hdu : u + 4 < 1396) (hU : LoD F A f u a ours) (hru : F u 5 = x0 ∧ F u 6 = y0 ∧ F u 7 = x1 ∧ F u 8 = y1) (hL : LoD F A f l b th) (hrc : F l 5 = 0 ∧ F l 6 = 0 ∧ F l 7 = 63 ∧ F l 8 = 63) (ho8 : ours ≤ 8) (hm8 : th ≤ 8) (hkey : key < 4800) (hk : A 1404 (key * 6) = F 1396 11 → kpB (A 1404) (key * 6) = layF f a b ours th x0 y0 x1 y1) (hn : w.1 = N0) : Ev g (d + 12) 18 [.ref 1396, .int (nI key), .ref u, .ref l, .int (f 1)] (cW w F A L) (fiQ w F A L key (layF f a b ours th x0 y0 x1 y1)) noX := by
  have loopT : ∀ t, t ≤ 4 → ∀ F1 A1 l8 l9, LfI F A F1 A1 (layQ f a b ours th x0 y0 x1 y1 (0, 1000, 0, 0, 0) t) → EX g mbOf (Ev g (d + 11)) (infoOf 18) k_X2_find (fiQ w F A L key (layF f a b ours th x0 y0 x1 y1)) noX w.1 (cW w F1 A1 L) 0 0 42 [some (.ref 1396), some (.int (nI key)), some (.ref u), some (.ref l), some (.int (f 1)), some (.int (nI (key * 6))), some (.int 1), some (.int (nI t)), l8, l9] [] := by
    refine downN 4 fun t ht ih => ?_
    intro F1 A1 l8 l9 hI
    refine x_il rfl rfl ?_
    refine x_c rfl ?_
    refine x_icgeN (y := 4) rfl (by omega) (fun c => ?_) (fun c => ?_)
    · skip
      refine x_il rfl rfl ?_
      obtain rfl : t = 4 := by omega
      obtain ⟨i1, i2, i3, i4⟩ := hI
      have hb := i1.fin
      refine x_ifeq rfl (fun c => absurd c (show ¬ (1 : Int32) = 0 by decide)) (fun c => ?_)
      refine x_al rfl rfl ?_
      refine x_il rfl rfl ?_
      refine x_call2 (c_keep (x := layF f a b ours th x0 y0 x1 y1) hb (by omega) hn) rfl (Nat.le_of_ble_eq_true rfl) (Or.inl (by first | exact hn | assumption)) (rcv_at (cw_fs (by with_reducible exact sp_1396) hn) (by decide) (by decide)) (Nat.le_of_ble_eq_true rfl) (Nat.le_of_ble_eq_true rfl) (fun E w9 hq => hq.elim) ?_
      rintro v9 w9 ⟨rfl, rfl⟩
      refine x_retv rfl (Nat.le_of_ble_eq_true rfl) (Nat.le_of_ble_eq_true rfl) rfl ?_
      refine ⟨rfl, F1, _, rfl, hb, i2, i3, fun q hq => by rw [udA_ne (by omega)]; exact i4 q (by omega), Or.inr (by rw [udA_t, i4 1404 (by omega), i2])⟩
    refine x_al rfl rfl ?_
    refine x_getC rfl hn (by with_reducible exact sp_1396) (by exact rfl) ?_
    refine x_al rfl rfl ?_
    refine x_il rfl rfl ?_
    have eu : F1 u = F u := hI.2.2.1 u (by omega) (by omega)
    have hU1 : LoD F1 A1 f u a ours := hU.mono eu (fun q h1 h2 => hI.2.2.2 q (by omega))
    refine x_call3 (c_turnFrom sh_turned hu (by omega) c hU1.1 ho8 hn) rfl (Nat.le_of_ble_eq_true rfl) (Or.inl (by first | exact hn | assumption)) (rcv_at (cw_fs (by with_reducible exact sh_0 (by first | assumption | exact sh_turned | exact pr_sh (by first | assumption | exact prA (by omega) | exact prD | exact prB (by assumption) (by omega)) | exact ma_sh (by first | assumption | exact maA (by omega) | exact maB (by assumption) (by omega)))) hn) (by decide) (by decide)) (Nat.le_of_ble_eq_true rfl) (Nat.le_of_ble_eq_true rfl) (fun E w9 hq => hq.elim) ?_
    rintro v9 w9 ⟨rfl, h, A2, rfl, hT⟩
    refine x_c rfl ?_
    refine x_is (lo' := [_, _, _, _, _, _, _, _, _, _]) rfl (Nat.le_of_ble_eq_true rfl) rfl ?_
    have hTD := TuD.ofI hT hU1 (by rw [eu]; exact hru)
    have hI2 : LfI F A (udA F1 1397 h) A2 (layQ f a b ours th x0 y0 x1 y1 (0, 1000, 0, 0, 0) t) := ⟨hI.1, hI.2.1, fun q h1 h2 => by rw [udA_ne h2]; exact hI.2.2.1 q h1 h2, fun q hq => by rw [hT.2.2.2 q (by omega)]; exact hI.2.2.2 q hq⟩
    have ih := ih c
    rw [layQ_s] at ih
    generalize layQ f a b ours th x0 y0 x1 y1 (0, 1000, 0, 0, 0) t = b0 at *
    have loopI : ∀ i, i ≤ ours → ∀ F3 A3 l9, TuD F3 A3 f a ours t x0 y0 x1 y1 → LfI F A F3 A3 (layI f a b ours th x0 y0 x1 y1 t b0 i) → EX g mbOf (Ev g (d + 11)) (infoOf 18) k_X2_find (fiQ w F A L key (layF f a b ours th x0 y0 x1 y1)) noX w.1 (cW w F3 A3 L) 0 0 52 [some (.ref 1396), some (.int (nI key)), some (.ref u), some (.ref l), some (.int (f 1)), some (.int (nI (key * 6))), some (.int 1), some (.int (nI t)), some (.int (nI i)), l9] [] := by
      refine downN ours fun i hi ihi => ?_
      intro F3 A3 l9 hD3 hI3
      refine x_il rfl rfl ?_
      refine x_al rfl rfl ?_
      refine x_getC rfl hn (by with_reducible exact sp_1396) (by exact rfl) ?_
      refine x_getC rfl hn (by with_reducible exact sh_0 (by first | assumption | exact sh_turned | exact pr_sh (by first | assumption | exact prA (by omega) | exact prD | exact prB (by assumption) (by omega)) | exact ma_sh (by first | assumption | exact maA (by omega) | exact maB (by assumption) (by omega)))) (by exact rfl) ?_
      rw [hD3.1]
      refine x_icgeN rfl (by omega) (fun c1 => ?_) (fun c1 => ?_)
      · refine x_inc1 (lo' := [_, _, _, _, _, _, _, _, _, _]) rfl rfl rfl ?_
        refine x_go rfl ?_
        obtain rfl : i = ours := by omega
        exact ih _ _ _ _ hI3
      refine x_c rfl ?_
      refine x_is (lo' := [_, _, _, _, _, _, _, _, _, _]) rfl (Nat.le_of_ble_eq_true rfl) rfl ?_
      have ihi := ihi c1
      rw [layI_s] at ihi
      generalize layI f a b ours th x0 y0 x1 y1 t b0 i = b1 at *
      have loopJ : ∀ j, j ≤ th → ∀ F4 A4, TuD F4 A4 f a ours t x0 y0 x1 y1 → LfI F A F4 A4 (layJ f a b ours th x0 y0 x1 y1 t i b1 j) → EX g mbOf (Ev g (d + 11)) (infoOf 18) k_X2_find (fiQ w F A L key (layF f a b ours th x0 y0 x1 y1)) noX w.1 (cW w F4 A4 L) 0 0 59 [some (.ref 1396), some (.int (nI key)), some (.ref u), some (.ref l), some (.int (f 1)), some (.int (nI (key * 6))), some (.int 1), some (.int (nI t)), some (.int (nI i)), some (.int (nI j))] [] := by
        refine downN th fun j hj ihj => ?_
        intro F4 A4 hD4 hI4
        have el : F4 l = F l := hI4.2.2.1 l (by omega) (by omega)
        have hL4 : LoD F4 A4 f l b th := hL.mono el (fun q h1 h2 => hI4.2.2.2 q (by omega))
        refine x_il rfl rfl ?_
        refine x_al rfl rfl ?_
        refine x_getC rfl hn (by with_reducible exact sh_0 (by first | assumption | exact sh_turned | exact pr_sh (by first | assumption | exact prA (by omega) | exact prD | exact prB (by assumption) (by omega)) | exact ma_sh (by first | assumption | exact maA (by omega) | exact maB (by assumption) (by omega)))) (by exact rfl) ?_
        rw [hL4.1]
        refine x_icgeN rfl (by omega) (fun c2 => ?_) (fun c2 => ?_)
        · refine x_inc1 (lo' := [_, _, _, _, _, _, _, _, _, _]) rfl rfl rfl ?_
          refine x_go rfl ?_
          obtain rfl : j = th := by omega
          exact ihi _ _ _ hD4 hI4
        refine x_al rfl rfl ?_
        refine x_al rfl rfl ?_
        refine x_il rfl rfl ?_
        refine x_il rfl rfl ?_
        refine x_al rfl rfl ?_
        refine x_getC rfl hn (by with_reducible exact sh_0 (by first | assumption | exact sh_turned | exact pr_sh (by first | assumption | exact prA (by omega) | exact prD | exact prB (by assumption) (by omega)) | exact ma_sh (by first | assumption | exact maA (by omega) | exact maB (by assumption) (by omega)))) (by exact rfl) ?_
        refine x_il rfl rfl ?_
        refine x_iaC rfl hn (by with_reducible exact sh_1 (by first | assumption | exact sh_turned | exact pr_sh (by first | assumption | exact prA (by omega) | exact prD | exact prB (by assumption) (by omega)) | exact ma_sh (by first | assumption | exact maA (by omega) | exact maB (by assumption) (by omega)))) (by omega) ?_
        refine x_al rfl rfl ?_
        refine x_getC rfl hn (by with_reducible exact sp_1396) (by exact rfl) ?_
        refine x_getC rfl hn (by with_reducible exact sh_0 (by first | assumption | exact sh_turned | exact pr_sh (by first | assumption | exact prA (by omega) | exact prD | exact prB (by assumption) (by omega)) | exact ma_sh (by first | assumption | exact maA (by omega) | exact maB (by assumption) (by omega)))) (by exact rfl) ?_
        refine x_il rfl rfl ?_
        refine x_iaC rfl hn (by with_reducible exact sh_1 (by first | assumption | exact sh_turned | exact pr_sh (by first | assumption | exact prA (by omega) | exact prD | exact prB (by assumption) (by omega)) | exact ma_sh (by first | assumption | exact maA (by omega) | exact maB (by assumption) (by omega)))) (by omega) ?_
        refine x_sub rfl ?_
        refine x_al rfl rfl ?_
        refine x_getC rfl hn (by with_reducible exact sh_0 (by first | assumption | exact sh_turned | exact pr_sh (by first | assumption | exact prA (by omega) | exact prD | exact prB (by assumption) (by omega)) | exact ma_sh (by first | assumption | exact maA (by omega) | exact maB (by assumption) (by omega)))) (by exact rfl) ?_
        refine x_il rfl rfl ?_
        refine x_iaC rfl hn (by with_reducible exact sh_2 (by first | assumption | exact sh_turned | exact pr_sh (by first | assumption | exact prA (by omega) | exact prD | exact prB (by assumption) (by omega)) | exact ma_sh (by first | assumption | exact maA (by omega) | exact maB (by assumption) (by omega)))) (by omega) ?_
        refine x_al rfl rfl ?_
        refine x_getC rfl hn (by with_reducible exact sp_1396) (by exact rfl) ?_
        refine x_getC rfl hn (by with_reducible exact sh_0 (by first | assumption | exact sh_turned | exact pr_sh (by first | assumption | exact prA (by omega) | exact prD | exact prB (by assumption) (by omega)) | exact ma_sh (by first | assumption | exact maA (by omega) | exact maB (by assumption) (by omega)))) (by exact rfl) ?_
        refine x_il rfl rfl ?_
        refine x_iaC rfl hn (by with_reducible exact sh_2 (by first | assumption | exact sh_turned | exact pr_sh (by first | assumption | exact prA (by omega) | exact prD | exact prB (by assumption) (by omega)) | exact ma_sh (by first | assumption | exact maA (by omega) | exact maB (by assumption) (by omega)))) (by omega) ?_
        refine x_sub rfl ?_
        obtain ⟨tx_, ty_, _, _⟩ := hD4.2.2 i c1
        obtain ⟨lx_, ly_, _, _⟩ := hL4.2 j c2
        have ihj := ihj c2
        rw [layJ_s] at ihj
        rw [show A4 (1397 + 1) i = _ from tx_, show A4 (1397 + 2) i = _ from ty_, lx_, ly_]
        refine x_call6 (c_tryLay (t := t) hl hd hD4 hL4 (by rw [el]; exact hrc) ho8 hm8 hI4.1 hn) rfl (Nat.le_of_ble_eq_true rfl) (Or.inl (by first | exact hn | assumption)) (rcv_at (cw_fs (by with_reducible exact sp_1396) hn) (by decide) (by decide)) (Nat.le_of_ble_eq_true rfl) (Nat.le_of_ble_eq_true rfl) (fun E w9 hq => hq.elim) ?_
        rintro v9 w9 ⟨rfl, h5, A5, rfl, k1, k2, k3⟩
        refine x_inc1 (lo' := [_, _, _, _, _, _, _, _, _, _]) rfl rfl rfl ?_
        refine x_go rfl ?_
        refine ihj _ _ (hD4.mono (udA_ne (by decide)) (fun q h1 h2 => k3 q (by omega) (by omega))) ⟨?_, ?_, fun q h1 h2 => ?_, fun q hq => ?_⟩
        · rw [udA_t]; exact k1
        · rw [udA_t, k2]; exact hI4.2.1
        · rw [udA_ne h1]; exact hI4.2.2.1 q h1 h2
        · rw [k3 q (by omega) (by omega)]; exact hI4.2.2.2 q hq
      exact loopJ 0 (Nat.zero_le _) _ _ hD3 hI3
    exact loopI 0 (Nat.zero_le _) _ _ _ hTD hI2
  have at30 : ∀ l7 l8 l9, EX g mbOf (Ev g (d + 11)) (infoOf 18) k_X2_find (fiQ w F A L key (layF f a b ours th x0 y0 x1 y1)) noX w.1 (cW w F A L) 0 0 30 [some (.ref 1396), some (.int (nI key)), some (.ref u), some (.ref l), some (.int (f 1)), some (.int (nI (key * 6))), some (.int 1), l7, l8, l9] [] := by
    intro l7 l8 l9
    refine x_al rfl rfl ?_
    refine x_c rfl ?_
    refine x_putC rfl hn (by with_reducible exact sp_1396) (by exact rfl) (by first | rfl | exact nr_z (by assumption)) rfl ?_
    refine x_al rfl rfl ?_
    refine x_c rfl ?_
    refine x_c rfl ?_
    refine x_c rfl ?_
    refine x_c rfl ?_
    refine x_c rfl ?_
    refine x_call6 (c_take hn) rfl (Nat.le_of_ble_eq_true rfl) (Or.inl (by first | exact hn | assumption)) (rcv_at (cw_fs (by with_reducible exact sp_1396) hn) (by decide) (by decide)) (Nat.le_of_ble_eq_true rfl) (Nat.le_of_ble_eq_true rfl) (fun E w9 hq => hq.elim) ?_
    rintro v9 w9 ⟨rfl, rfl⟩
    refine x_c rfl ?_
    refine x_is (lo' := [_, _, _, _, _, _, _, _, _, _]) rfl (Nat.le_of_ble_eq_true rfl) rfl ?_
    refine loopT 0 (by decide) _ _ _ _ ⟨Or.inl ⟨?_, ?_, rfl⟩, ?_, fun q h1 h2 => ?_, fun q hq => rfl⟩
    · rw [udA_t, udA_t, lyT_o _ _ (by decide)]; exact upd_at
    · rw [udA_t]; exact lyT_BL _ _
    · rw [udA_t, udA_t, lyT_o _ _ (by decide), upd_ne (by decide)]
    · rw [udA_ne h1, udA_ne h1]
  refine ev_X2_find ?_ (Nat.le_of_ble_eq_true rfl)
  refine x_lo (lo' := [some (.ref 1396), some (.int (nI key)), some (.ref u), some (.ref l), some (.int (f 1)), none, none, none, none, none]) rfl ?_
  refine x_il rfl rfl ?_
  refine x_c rfl ?_
  refine x_mulN (y := 6) rfl ?_
  refine x_is (lo' := [_, _, _, _, _, _, _, _, _, _]) rfl (Nat.le_of_ble_eq_true rfl) rfl ?_
  refine x_il rfl rfl ?_
  refine x_iflt rfl (fun c => absurd c (nI_pos (by omega))) (fun c => ?_)
  refine x_il rfl rfl ?_
  refine x_c rfl ?_
  refine x_addN (y := 6) rfl ?_
  refine x_al rfl rfl ?_
  refine x_getC rfl hn (by with_reducible exact sp_1396) (by exact rfl) ?_
  refine x_lenC rfl hn (by with_reducible exact sp_1404) ?_
  refine x_icgtN rfl (by omega) (fun c => absurd c (by omega)) (fun c => ?_)
  refine x_c rfl ?_
  refine x_go rfl ?_
  refine x_is (lo' := [_, _, _, _, _, _, _, _, _, _]) rfl (Nat.le_of_ble_eq_true rfl) rfl ?_
  refine x_il rfl rfl ?_
  refine x_ifeq rfl (fun c => absurd c (show ¬ (1 : Int32) = 0 by decide)) (fun c => ?_)
  refine x_al rfl rfl ?_
  refine x_getC rfl hn (by with_reducible exact sp_1396) (by exact rfl) ?_
  refine x_il rfl rfl ?_
  refine x_iaC rfl hn (by with_reducible exact sp_1404) (by omega) ?_
  refine x_al rfl rfl ?_
  refine x_getC rfl hn (by with_reducible exact sp_1396) (by exact rfl) ?_
  refine x_icne rfl (fun c1 => ?_) (fun c1 => ?_)
  · skip
    exact at30 _ _ _
  refine x_al rfl rfl ?_
  refine x_il rfl rfl ?_
  refine x_call2 (c_recall (by omega) hn) rfl (Nat.le_of_ble_eq_true rfl) (Or.inl (by first | exact hn | assumption)) (rcv_at (cw_fs (by with_reducible exact sp_1396) hn) (by decide) (by decide)) (Nat.le_of_ble_eq_true rfl) (Nat.le_of_ble_eq_true rfl) (fun E w9 hq => hq.elim) ?_
  rintro v9 w9 ⟨rfl, rfl⟩
  refine x_retv rfl (Nat.le_of_ble_eq_true rfl) (Nat.le_of_ble_eq_true rfl) rfl ?_
  refine ⟨rfl, _, _, rfl, ?_, ?_, fun q h1 h2 => udA_ne h1, fun q hq => rfl, Or.inl rfl⟩
  · rw [udA_t, ← hk c1]; exact lyT_BL _ _
  · rw [udA_t, lyT_o _ _ (by decide)]
end CALLS
