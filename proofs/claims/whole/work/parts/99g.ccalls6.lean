/-! marks and cards made and changed; cw_ -/
section K
variable {F A F' A' : Nat → Nat → Int32} {f f' : Nat → Int32} {np nm nc nt ns nh v : Nat}
theorem markF_o {k i : Nat} {x0 y0 x1 y1 : Int32} {gr : Bool} (h1 : i ≠ 5825) (h2 : i < 5826 + 39 * k ∨ 5826 + 39 * k + 6 ≤ i) : markF f k x0 y0 x1 y1 gr i = f i := by
  unfold markF
  rw [upd_ne (by omega), upd_ne (by omega), upd_ne (by omega), upd_ne (by omega), upd_ne (by omega), upd_ne (by omega), upd_ne (by omega)]
theorem markF_at {k : Nat} {x0 y0 x1 y1 : Int32} {gr : Bool} : markF f k x0 y0 x1 y1 gr 5825 = nI (k + 1) ∧ markF f k x0 y0 x1 y1 gr (5826 + 39 * k) = f 0 ∧ markF f k x0 y0 x1 y1 gr (5826 + 39 * k + 1) = x0 ∧ markF f k x0 y0 x1 y1 gr (5826 + 39 * k + 1 + 1) = y0 ∧ markF f k x0 y0 x1 y1 gr (5826 + 39 * k + 1 + 2) = x1 ∧ markF f k x0 y0 x1 y1 gr (5826 + 39 * k + 1 + 3) = y1 ∧ markF f k x0 y0 x1 y1 gr (5826 + 39 * k + 5) = bI gr := by
  unfold markF
  refine ⟨?_, ?_, ?_, ?_, ?_, ?_, ?_⟩
  · rw [upd_ne (by omega), upd_ne (by omega), upd_ne (by omega), upd_ne (by omega), upd_ne (by omega), upd_ne (by omega), upd_at]
  · rw [upd_ne (by omega), upd_ne (by omega), upd_ne (by omega), upd_ne (by omega), upd_ne (by omega)]
    exact upd_at
  · rw [upd_ne (by omega), upd_ne (by omega), upd_ne (by omega), upd_ne (by omega), upd_at]
  · rw [upd_ne (by omega), upd_ne (by omega), upd_ne (by omega), show 5826 + 39 * k + 1 + 1 = 5826 + 39 * k + 2 by omega, upd_at]
  · rw [upd_ne (by omega), upd_ne (by omega), show 5826 + 39 * k + 1 + 2 = 5826 + 39 * k + 3 by omega, upd_at]
  · rw [upd_ne (by omega), show 5826 + 39 * k + 1 + 3 = 5826 + 39 * k + 4 by omega, upd_at]
  · exact upd_at
theorem blankC_at {c : Nat} : ∀ n i, blankC c f n i = if 6607 + 26 * c ≤ i ∧ i < 6607 + 26 * c + n then -1 else f i := by
  intro n
  induction n with
  | zero => intro i; rw [if_neg (by omega)]; rfl
  | succ n ih =>
    intro i
    show upd (blankC c f n) (6607 + 26 * c + n) (-1) i = _
    by_cases e : i = 6607 + 26 * c + n
    · subst e; rw [upd_at, if_pos (by omega)]
    · rw [upd_ne e, ih]
      by_cases h : 6607 + 26 * c ≤ i ∧ i < 6607 + 26 * c + n
      · rw [if_pos h, if_pos (by omega)]
      · rw [if_neg h, if_neg (by omega)]
theorem cardF_at {c i : Nat} {x : Int32} : cardF f c x i = if i = 6607 + 26 * c + 1 then f 0 else if i = 6607 + 26 * c then x else if 6607 + 26 * c ≤ i ∧ i < 6607 + 26 * c + 26 then -1 else if i = 6606 then nI (c + 1) else f i := by
  unfold cardF
  rw [show ∀ g : Nat → Int32, upd g (6607 + 26 * c + 1) (f 0) i = if i = 6607 + 26 * c + 1 then f 0 else g i from fun g => rfl]
  by_cases h1 : i = 6607 + 26 * c + 1
  · rw [if_pos h1, if_pos h1]
  · rw [if_neg h1, if_neg h1]
    rw [show ∀ g : Nat → Int32, upd g (6607 + 26 * c + 0) x i = if i = 6607 + 26 * c then x else g i from fun g => rfl]
    by_cases h2 : i = 6607 + 26 * c
    · rw [if_pos h2, if_pos h2]
    · rw [if_neg h2, if_neg h2, blankC_at]
      by_cases h3 : 6607 + 26 * c ≤ i ∧ i < 6607 + 26 * c + 26
      · rw [if_pos h3, if_pos h3]
      · rw [if_neg h3, if_neg h3]
        rfl
theorem clrC_at {c j : Nat} (hj : j < 10) : ∀ n i, n ≤ 20 → clrC c j f n i = if ∃ k, k < n ∧ i = 7023 + 10 * (16 * k + c) + j then 0 else f i := by
  intro n
  induction n with
  | zero => intro i _; rw [if_neg (fun ⟨k, h, _⟩ => by omega)]; rfl
  | succ n ih =>
    intro i hn
    show upd (clrC c j f n) (7023 + 10 * (16 * n + c) + j) 0 i = _
    by_cases e : i = 7023 + 10 * (16 * n + c) + j
    · rw [e, upd_at, if_pos ⟨n, by omega, rfl⟩]
    · rw [upd_ne e, ih i (by omega)]
      by_cases h : ∃ k, k < n ∧ i = 7023 + 10 * (16 * k + c) + j
      · rw [if_pos h, if_pos (by obtain ⟨k, h1, h2⟩ := h; exact ⟨k, by omega, h2⟩)]
      · rw [if_neg h, if_neg (by
          rintro ⟨k, h1, h2⟩
          by_cases hk : k = n
          · subst hk; exact e h2
          · exact h ⟨k, by omega, h2⟩)]
end K
section CALLS
variable {g : aG} {d : Nat} {w : aW} {F A : Nat → Nat → Int32} {L : Nat → Int64} {f : Nat → Int32} {np nm nc nt ns nh v : Nat}
theorem c_beginCard {q : Nat} {x y : Int32} (hq : CaAt q) (hn : w.1 = N0) : Ev g (d + 1) 1 [.ref q, .int x, .int y] (cW w F A L) (fun v1 w' => v1 = none ∧ ∃ A', w' = cW w (udA F q (upd (upd (upd (F q) 0 x) 1 y) 2 (-1))) A' L ∧ (∀ j, j < 10 → A' (q + 1) j = -1 ∧ A' (q + 2) j = -1 ∧ A' (q + 3) j = 0) ∧ (∀ t, t < 3 → A' (q + 4) t = -1) ∧ ∀ r, (r ≤ q ∨ q + 4 < r) → A' r = A r) noX := by
  have loop2 : ∀ t, t ≤ 3 → ∀ A1, (∀ j, j < 10 → A1 (q + 1) j = -1 ∧ A1 (q + 2) j = -1 ∧ A1 (q + 3) j = 0) → (∀ s, s < t → A1 (q + 4) s = -1) → (∀ r, (r ≤ q ∨ q + 4 < r) → A1 r = A r) → EX g mbOf (Ev g (d)) (infoOf 1) k_X0_begin (fun v1 w' => v1 = none ∧ ∃ A', w' = cW w (udA F q (upd (upd (upd (F q) 0 x) 1 y) 2 (-1))) A' L ∧ (∀ j, j < 10 → A' (q + 1) j = -1 ∧ A' (q + 2) j = -1 ∧ A' (q + 3) j = 0) ∧ (∀ t, t < 3 → A' (q + 4) t = -1) ∧ ∀ r, (r ≤ q ∨ q + 4 < r) → A' r = A r) noX w.1 (cW w (udA F q (upd (upd (upd (F q) 0 x) 1 y) 2 (-1))) A1 L) 0 0 33 [some (.ref q), some (.int x), some (.int y), some (.int (nI t))] [] := by
    refine downN 3 fun t ht ih => ?_
    intro A1 h1 h2 h3
    refine x_il rfl rfl ?_
    refine x_c rfl ?_
    refine x_icgeN (y := 3) rfl (by omega) (fun c => ?_) (fun c => ?_)
    · refine x_retv rfl (Nat.le_of_ble_eq_true rfl) (Nat.le_of_ble_eq_true rfl) rfl ?_
      obtain rfl : t = 3 := by omega
      exact ⟨rfl, A1, rfl, h1, h2, h3⟩
    refine x_al rfl rfl ?_
    refine x_getC rfl hn (by with_reducible exact ca_0 (by first | assumption | exact caA (by omega) | exact caB (by assumption) (by omega))) (by exact rfl) ?_
    refine x_il rfl rfl ?_
    refine x_c rfl ?_
    refine x_iasC rfl hn (by with_reducible exact ca_4 (by first | assumption | exact caA (by omega) | exact caB (by assumption) (by omega))) (by omega) ?_
    refine x_inc1 (lo' := [_, _, _, _]) rfl rfl rfl ?_
    refine x_go rfl ?_
    refine ih c _ (fun j hj => ?_) (fun s hs => ?_) (fun r hr => ?_)
    · rw [udA_ne (by omega), udA_ne (by omega), udA_ne (by omega)]; exact h1 j hj
    · rw [udA_t]
      by_cases e : s = t
      · subst e; exact upd_at
      · rw [upd_ne e]; exact h2 s (by omega)
    · rw [udA_ne (by omega)]; exact h3 r hr
  have loop1 : ∀ i, i ≤ 10 → ∀ A1, (∀ j, j < i → A1 (q + 1) j = -1 ∧ A1 (q + 2) j = -1 ∧ A1 (q + 3) j = 0) → (∀ r, (r ≤ q ∨ q + 4 < r) → A1 r = A r) → EX g mbOf (Ev g (d)) (infoOf 1) k_X0_begin (fun v1 w' => v1 = none ∧ ∃ A', w' = cW w (udA F q (upd (upd (upd (F q) 0 x) 1 y) 2 (-1))) A' L ∧ (∀ j, j < 10 → A' (q + 1) j = -1 ∧ A' (q + 2) j = -1 ∧ A' (q + 3) j = 0) ∧ (∀ t, t < 3 → A' (q + 4) t = -1) ∧ ∀ r, (r ≤ q ∨ q + 4 < r) → A' r = A r) noX w.1 (cW w (udA F q (upd (upd (upd (F q) 0 x) 1 y) 2 (-1))) A1 L) 0 0 11 [some (.ref q), some (.int x), some (.int y), some (.int (nI i))] [] := by
    refine downN 10 fun i hi ih => ?_
    intro A1 h1 h3
    refine x_il rfl rfl ?_
    refine x_c rfl ?_
    refine x_icgeN (y := 10) rfl (by omega) (fun c => ?_) (fun c => ?_)
    · refine x_c rfl ?_
      refine x_is (lo' := [_, _, _, _]) rfl (Nat.le_of_ble_eq_true rfl) rfl ?_
      exact loop2 0 (by decide) A1 (fun j hj => h1 j (by omega)) (fun s hs => absurd hs (by omega)) h3
    refine x_al rfl rfl ?_
    refine x_getC rfl hn (by with_reducible exact ca_0 (by first | assumption | exact caA (by omega) | exact caB (by assumption) (by omega))) (by exact rfl) ?_
    refine x_il rfl rfl ?_
    refine x_c rfl ?_
    refine x_iasC rfl hn (by with_reducible exact ca_1 (by first | assumption | exact caA (by omega) | exact caB (by assumption) (by omega))) (by omega) ?_
    refine x_al rfl rfl ?_
    refine x_getC rfl hn (by with_reducible exact ca_0 (by first | assumption | exact caA (by omega) | exact caB (by assumption) (by omega))) (by exact rfl) ?_
    refine x_il rfl rfl ?_
    refine x_c rfl ?_
    refine x_iasC rfl hn (by with_reducible exact ca_2 (by first | assumption | exact caA (by omega) | exact caB (by assumption) (by omega))) (by omega) ?_
    refine x_al rfl rfl ?_
    refine x_getC rfl hn (by with_reducible exact ca_0 (by first | assumption | exact caA (by omega) | exact caB (by assumption) (by omega))) (by exact rfl) ?_
    refine x_il rfl rfl ?_
    refine x_c rfl ?_
    refine x_iasC rfl hn (by with_reducible exact ca_3 (by first | assumption | exact caA (by omega) | exact caB (by assumption) (by omega))) (by omega) ?_
    refine x_inc1 (lo' := [_, _, _, _]) rfl rfl rfl ?_
    refine x_go rfl ?_
    refine ih c _ (fun j hj => ?_) (fun r hr => ?_)
    · rw [udA_ne (show q + 1 ≠ q + 3 by omega), udA_ne (show q + 1 ≠ q + 2 by omega), udA_t, udA_ne (show q + 2 ≠ q + 3 by omega), udA_t, udA_t]
      by_cases e : j = i
      · subst e
        exact ⟨upd_at, upd_at, upd_at⟩
      · rw [upd_ne e, upd_ne e, upd_ne e, udA_ne (show q + 2 ≠ q + 1 by omega), udA_ne (show q + 3 ≠ q + 2 by omega), udA_ne (show q + 3 ≠ q + 1 by omega)]
        exact h1 j (by omega)
    · rw [udA_ne (by omega), udA_ne (by omega), udA_ne (by omega)]; exact h3 r hr
  refine ev_X0_begin ?_ (Nat.le_of_ble_eq_true rfl)
  refine x_lo (lo' := [some (.ref q), some (.int x), some (.int y), none]) rfl ?_
  refine x_al rfl rfl ?_
  refine x_il rfl rfl ?_
  refine x_putC rfl hn (by with_reducible exact ca_0 (by first | assumption | exact caA (by omega) | exact caB (by assumption) (by omega))) (by exact rfl) (by first | rfl | exact nr_z (by assumption)) rfl ?_
  refine x_al rfl rfl ?_
  refine x_il rfl rfl ?_
  refine x_putC rfl hn (by with_reducible exact ca_0 (by first | assumption | exact caA (by omega) | exact caB (by assumption) (by omega))) (by exact rfl) (by first | rfl | exact nr_z (by assumption)) rfl ?_
  refine x_al rfl rfl ?_
  refine x_c rfl ?_
  refine x_putC rfl hn (by with_reducible exact ca_0 (by first | assumption | exact caA (by omega) | exact caB (by assumption) (by omega))) (by exact rfl) (by first | rfl | exact nr_z (by assumption)) rfl ?_
  refine x_c rfl ?_
  refine x_is (lo' := [_, _, _, _]) rfl (Nat.le_of_ble_eq_true rfl) rfl ?_
  rw [udA_udA, udA_udA, udA_t, udA_t]
  exact loop1 0 (by decide) A (fun j hj => absurd hj (by omega)) (fun r _ => rfl)
theorem c_tell {x y : Int32} (hK : KI F A f np nm v) (hR : RS F A f 6 np nm nc nt ns nh) (hI : IV f np nm nc nt ns nh) (hn : w.1 = N0) : Ev g (d + 4) 149 [.ref 0, .int x, .int y] (cW w F A L) (caQ w F A (if okN x nc = true ∧ okN y 3 = true ∧ f (6607 + 26 * cN x + (3 + cN y)) < 0 then upd f (6607 + 26 * cN x + (3 + cN y)) (f 0) else f) v (if okN x nc = true then (if okN y 3 = true then 0 else 2) else 1) (some (.int (bI (decide (okN x nc = true ∧ okN y 3 = true ∧ f (6607 + 26 * cN x + (3 + cN y)) < 0)))))) (caX (cW w F A L) (if okN x nc = true then (if okN y 3 = true then 0 else 2) else 1) 2 0) := by
  have h60 := hI.p60
  have h20 := hI.m20
  have h16 := hI.c16
  have h10 := hI.t10
  have h200 := hI.s200
  have hh200 := hI.h200
  refine ev_X10_tell ?_ (Nat.le_of_ble_eq_true rfl)
  refine x_lo (lo' := [some (.ref 0), some (.int x), some (.int y), none]) rfl ?_
  refine x_al rfl rfl ?_
  refine x_il rfl rfl ?_
  refine x_call2 (c_needCard hR.1.2.2.2.2.2.2.1 (by omega) hn) rfl (Nat.le_of_ble_eq_true rfl) (Or.inl (by first | exact hn | assumption)) (rcv_at (cw_fs (by with_reducible exact sp_0) hn) (by decide) (by decide)) (Nat.le_of_ble_eq_true rfl) (Nat.le_of_ble_eq_true rfl) (fun E w9 hq => ⟨rfl, by obtain ⟨h9, rfl, rfl⟩ := hq; exact ⟨rfl, Or.inl ⟨if_neg (fun h8 => fne h9 h8), rfl⟩⟩⟩) ?_
  rintro v9 w9 ⟨h1, rfl, rfl⟩
  refine x_il rfl rfl ?_
  have no : okN y 3 = false → EX g mbOf (Ev g (d + 3)) (infoOf 149) k_X10_tell (caQ w F A (if okN x nc = true ∧ okN y 3 = true ∧ f (6607 + 26 * cN x + (3 + cN y)) < 0 then upd f (6607 + 26 * cN x + (3 + cN y)) (f 0) else f) v (if okN x nc = true then (if okN y 3 = true then 0 else 2) else 1) (some (.int (bI (decide (okN x nc = true ∧ okN y 3 = true ∧ f (6607 + 26 * cN x + (3 + cN y)) < 0)))))) (caX (cW w F A L) (if okN x nc = true then (if okN y 3 = true then 0 else 2) else 1) 2 0) w.1 (cW w F A L) 1 6 8 [some (.ref 0), some (.int x), some (.int y), none] [] := by
    intro h
    refine x_thr rfl hn rfl (Nat.le_of_ble_eq_true rfl) (Nat.le_of_ble_eq_true rfl) (Nat.le_of_ble_eq_true rfl) ?_
    exact ⟨rfl, Or.inr ⟨by rw [if_pos h1, if_neg (fne h)], rfl⟩⟩
  refine x_iflt rfl (fun c1 => ?_) (fun c1 => ?_)
  · skip
    exact no (c_noN1 c1)
  refine x_il rfl rfl ?_
  refine x_c rfl ?_
  refine x_iclt rfl (fun c2 => ?_) (fun c2 => ?_)
  rotate_left
  · skip
    exact no (ge_no (n := 3) (by decide) c2)
  have h2 : okN y 3 = true := c_okN (n := 3) (by decide) c1 (Int32.not_le.mpr c2)
  rw [if_pos h1, if_pos h2]
  obtain ⟨c, hc, rfl, ec⟩ := ok_of h1 (by omega)
  obtain ⟨t, ht, rfl, et⟩ := ok_of h2 (by omega)
  rw [ec, et]
  have hC := hR.ca hc
  have hca := hI.ca hc
  have hN := (hca.2.2.1 t ht).neg
  have eA := hC.2.2 t ht
  refine x_al rfl rfl ?_
  refine x_getC rfl hn (by with_reducible exact sp_0) (by exact rfl) ?_
  refine x_getC rfl hn (by with_reducible exact (by first | exact sp_6 | exact st_0 (by assumption))) (by exact rfl) ?_
  refine x_il rfl rfl ?_
  refine x_aaC rfl hn (by with_reducible exact sp_9) (by decide) (by omega) ?_
  refine x_as (lo' := [_, _, _, _]) rfl (Nat.le_of_ble_eq_true rfl) rfl ?_
  refine x_al rfl rfl ?_
  refine x_getC rfl hn (by with_reducible exact ca_0 (by first | assumption | exact caA (by omega) | exact caB (by assumption) (by omega))) (by exact rfl) ?_
  refine x_il rfl rfl ?_
  refine x_iaC rfl hn (by with_reducible exact ca_4 (by first | assumption | exact caA (by omega) | exact caB (by assumption) (by omega))) (by omega) ?_
  refine x_c rfl ?_
  rw [eA]
  refine x_iceq rfl (fun c3 => ?_) (fun c3 => ?_)
  rotate_left
  · refine x_c rfl ?_
    refine x_retz rfl (Nat.le_of_ble_eq_true rfl) (Nat.le_of_ble_eq_true rfl) rfl (by first | rfl | assumption | exact bI_01 _) ?_
    rw [if_neg (fun h => c3 (hN.mpr h.2.2))]
    exact ca_ro hK hR hI (by rw [bI_f (fun h => c3 (hN.mpr h.2.2))]) rfl
  have c3 := hN.mp c3
  refine x_al rfl rfl ?_
  refine x_getC rfl hn (by with_reducible exact ca_0 (by first | assumption | exact caA (by omega) | exact caB (by assumption) (by omega))) (by exact rfl) ?_
  refine x_il rfl rfl ?_
  refine x_al rfl rfl ?_
  refine x_getC rfl hn (by with_reducible exact sp_0) (by exact rfl) ?_
  refine x_getC rfl hn (by with_reducible exact (by first | exact sp_6 | exact st_0 (by assumption))) (by exact rfl) ?_
  rw [show F 6 0 = f 0 from hR.1.1]
  refine x_iasC rfl hn (by with_reducible exact ca_4 (by first | assumption | exact caA (by omega) | exact caB (by assumption) (by omega))) (by omega) ?_
  refine x_c rfl ?_
  refine x_retz rfl (Nat.le_of_ble_eq_true rfl) (Nat.le_of_ble_eq_true rfl) rfl (by first | rfl | assumption | exact bI_01 _) ?_
  rw [if_pos ⟨h1, h2, c3⟩]
  obtain ⟨t0, ht0, et0⟩ := hI.2.1.1
  have hR1 : RS F (udA A (561 + 5 * c + 4) (upd (A (561 + 5 * c + 4)) t (f 0))) (upd f (6607 + 26 * c + (3 + t)) (f 0)) 6 np nm nc nt ns nh := by
    refine hR.cards hI (fun i hi => upd_ne (by omega)) hR.1.2.2.2.2.2.2.1 (fun _ _ => rfl) (fun _ _ _ _ => rfl) (fun q h1 h2 h3 => udA_ne (by omega)) (fun c' hc' => ?_)
    by_cases e : c' = c
    · subst e
      obtain ⟨⟨a0, a1, a2⟩, a3, a4⟩ := hC
      refine ⟨⟨by rw [upd_ne (by omega)]; exact a0, by rw [upd_ne (by omega)]; exact a1, by rw [upd_ne (by omega)]; exact a2⟩, fun j hj => ⟨?_, ?_, fun k hk => ?_⟩, fun s hs => ?_⟩
      · rw [udA_ne (by omega), upd_ne (by omega)]; exact (a3 j hj).1
      · rw [udA_ne (by omega), upd_ne (by omega)]; exact (a3 j hj).2.1
      · rw [udA_ne (by omega), upd_ne (by omega)]; exact (a3 j hj).2.2 k hk
      · rw [udA_t]
        by_cases e2 : s = t
        · subst e2; rw [upd_at, upd_at]
        · rw [upd_ne e2, upd_ne (by omega)]; exact a4 s hs
    · exact (hR.ca hc').oth (q := 0) (q1 := 0) e (by omega) (show c < 16 by omega) (fun q hq => ⟨rfl, udA_ne (by omega)⟩) (fun i h1 h2 => upd_ne (by omega))
  have hI1 : IV (upd f (6607 + 26 * c + (3 + t)) (f 0)) np nm nc nt ns nh := by
    refine hI.cards (fun i hi => upd_ne (by omega)) (by rw [upd_ne (by omega)]; exact hI.1.2.2.1.1) h16 (Nat.le_refl _) (fun c' hc' => ?_) (fun k c' j h1 h2 h3 h4 => by rw [upd_ne (by omega)]; exact hI.2.2.2.2.2.1.2 k c' j h1 h2 h3 h4)
    obtain ⟨a1, a2, a3, a4, a5⟩ := hI.ca hc'
    refine ⟨by rw [upd_ne (by omega)]; exact a1, by rw [upd_ne (by omega)]; exact a2, fun s hs => ?_, fun j hj => by rw [upd_ne (by omega), upd_ne (by omega)]; exact a4 j hj, ?_⟩
    · by_cases e : 6607 + 26 * c' + (3 + s) = 6607 + 26 * c + (3 + t)
      · rw [e, upd_at]; exact Or.inr ⟨t0, ht0, et0⟩
      · rw [upd_ne e]; exact a3 s hs
    · rw [cn_c (P' := fun j => decide (0 ≤ f (6607 + 26 * c' + (16 + j)))) 10 (fun j hj => by rw [upd_ne (by omega)])]
      exact a5
  exact ca_st hR1 hI1 ((hK.cong (samL_c (fun i hi => upd_ne (by omega)) h60 h20) hI.wp h60 h20 (Nat.le_refl _) (Nat.le_refl _)).keepC rfl (udA_ne (by omega))) (Nat.le_succ _) (fun q hq => ⟨rfl, udA_ne (by omega)⟩) (by rw [bI_t ⟨h1, h2, c3⟩]) rfl
end CALLS
