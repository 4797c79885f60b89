/-! the law from its first step; cw_ -/
theorem kl_b {j : Nat} {x : aI} (h : ([aO 31 10 0, aO 12 0 0, aV 108 1 [100], aO 1 1 1, aO 31 11 0, aO 12 0 0, aV 180 1 [100], aO 1 2 1, aC 0 (.int 1), aO 32 1 0, aO 1 3 1, aC 0 (.int 0), aO 1 4 0] : List aI)[j]? = some x) : k_L_law[0 + j]? = some x := segI (n := 13) (by decide +kernel) h
theorem kl_b0 {j : Nat} {x : aI} (h : ([aO 31 10 0, aO 12 0 0, aV 108 1 [100], aO 1 1 1, aO 31 11 0, aO 12 0 0, aV 180 1 [100], aO 1 2 1, aC 0 (.int 1), aO 32 1 0, aO 1 3 1, aC 0 (.int 0), aO 1 4 0] : List aI)[j]? = some x) : k_L_law[j]? = some x := by
  have := kl_b h
  rw [Nat.zero_add] at this
  exact this
theorem law_start {g : aG} {d n : Nat} {s : Nat → Int32} {z : Nat → va_E} (hgs : g.1 300 = some (0, n, s)) (hn3 : n ≤ 3072) (hri : HRi g) (htx : HTx g) : LX g d (0, z) 0 0 0 (entL [.ref (FB + 300)] 8) [] := by
  refine x_lo (lo' := [some (.ref (FB + 300)), none, none, none, none, none, none, none]) rfl ?_
  have w0 : ((0, z) : aW) = wB z ([] ++ []) := Prod.ext rfl (funext fun q => rfl)
  rw [w0]
  refine y_new (l := []) (xs := []) (xs' := [.inr (10, dfA 10)]) (q := 0) (kl_b0 (j := 0) rfl) (by decide) (by decide) (Nat.le_of_ble_eq_true rfl) (Nat.le_of_ble_eq_true rfl) rfl rfl ?_
  refine x_dup (kl_b0 (j := 1) rfl) rfl ?_
  refine y_call (l := []) (xs0 := []) (xs' := oBureau 0) (b_oBureau (g := g) (d := d + 37)) (kl_b0 (j := 2) rfl) (by decide) rfl rfl rfl (Nat.le_of_ble_eq_true rfl) (Nat.le_of_ble_eq_true rfl) (Nat.le_of_ble_eq_true rfl) rfl ?_
  refine x_as (lo' := [some (.ref (FB + 300)), some (.ref 0), none, none, none, none, none, none]) (kl_b0 (j := 3) rfl) (Nat.le_of_ble_eq_true rfl) rfl ?_
  refine y_new (l := []) (xs := oBureau 0) (xs' := oBureau 0 ++ [.inr (11, dfA 11)]) (q := 1424) (kl_b0 (j := 4) rfl) (by rw [oBureau_len]; decide) (by rw [oBureau_len] <;> rfl) (Nat.le_of_ble_eq_true rfl) (Nat.le_of_ble_eq_true rfl) rfl (by rw [oBureau_len] <;> rfl) ?_
  refine x_dup (kl_b0 (j := 5) rfl) rfl ?_
  have h := b_oModel (g := g) (d := d + 40) (z := z) (l := oBureau 0) (by rw [oBureau_len]; decide)
  rw [oBureau_len] at h
  have hw : (wB z ([] ++ (oBureau 0 ++ [.inr (11, dfA 11)]))).1 = 1425 := by
    show (oBureau 0 ++ [(.inr (11, dfA 11) : bO)]).length = 1425
    rw [List.length_append, oBureau_len]
    rfl
  refine x_inv (as := [.ref 1424]) (rest := [.ref 1424]) (kl_b0 (j := 6) rfl) rfl rfl (Nat.le_of_ble_eq_true rfl) (Or.inr (hw.trans (by rfl))) trivial (Nat.le_of_ble_eq_true rfl) (Nat.le_of_ble_eq_true rfl) h (fun v9 w9 hq => ?_) (fun E w9 hx => hx.elim)
  obtain ⟨rfl, rfl⟩ := hq
  refine x_as (lo' := [some (.ref (FB + 300)), some (.ref 0), some (.ref 1424), none, none, none, none, none]) (kl_b0 (j := 7) rfl) (Nat.le_of_ble_eq_true rfl) rfl ?_
  refine x_c (kl_b0 (j := 8) rfl) ?_
  have hl : (aUp (wB z (oBureau 0 ++ oModel 1424)) (1424 + 1) (.inl (0, 22176, .inl f0W))).1 = 1438 := cH0_len
  refine x_newa (kl_b0 (j := 9) rfl) (by decide) (by decide) (by rw [hl]; decide) (hl.trans (by rfl)) (Nat.le_of_ble_eq_true rfl) (Nat.le_of_ble_eq_true rfl) rfl ?_
  rw [hl]
  refine x_as (lo' := [some (.ref (FB + 300)), some (.ref 0), some (.ref 1424), some (.ref 1438), none, none, none, none]) (kl_b0 (j := 10) rfl) (Nat.le_of_ble_eq_true rfl) rfl ?_
  refine x_c (kl_b0 (j := 11) rfl) ?_
  refine x_is (lo' := loL 0 none none none) (kl_b0 (j := 12) rfl) (Nat.le_of_ble_eq_true rfl) rfl ?_
  exact law_loop cW0_1 hgs hn3 hri htx 513 0 (cW0 z) _ _ none none none rfl Gs_0 (Nat.le_of_ble_eq_true rfl) (Nat.le_of_ble_eq_true rfl)
