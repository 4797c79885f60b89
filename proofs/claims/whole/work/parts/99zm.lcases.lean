/-! cases of the law; cw_ -/
section CASES
variable {g : aG} {d : Nat} {w W : aW} {c n uc us : Nat} {s : Nat → Int32} {l5 l6 l7 : Option Value}
theorem k_0 (hG : Gs w c W) (hn : w.1 = N0) (hgs : g.1 300 = some (0, n, s)) (hcn : 6 * c + 5 < n) (hn3 : n ≤ 3072) (hri : HRi g) (htx : HTx g) (hu : uc ≤ 5000) (hs : us ≤ 130000) (go : GoT g d w c (uc + 5) (us + 30)) : LX g d W uc us 25 (loL c l5 l6 l7) [] := by
  obtain ⟨o, F, A, L, m, f, RA, RB, np, nm, nc, nt, ns, nh, v, en, b, rfl, hK, hvc, hR, hI, hB⟩ := hG
  have hv : v + 1 < 2 ^ 30 := by omega
  have hB2 := hB
  obtain ⟨⟨b1, b2, b3, b4⟩, b5, b6, b7⟩ := hB2
  refine x_al (kl_0 (j := 0) rfl) rfl ?_
  refine x_scr 1 (kl_0 (j := 1) rfl) (kl_0 (j := 2) rfl) (kl_0 (j := 3) rfl) (kl_0 (j := 4) rfl) (kl_0 (j := 5) rfl) rfl hgs hcn hn3 (by decide) ?_
  refine x_scr 2 (kl_0 (j := 6) rfl) (kl_0 (j := 7) rfl) (kl_0 (j := 8) rfl) (kl_0 (j := 9) rfl) (kl_0 (j := 10) rfl) rfl hgs hcn hn3 (by decide) ?_
  refine x_scr 3 (kl_0 (j := 11) rfl) (kl_0 (j := 12) rfl) (kl_0 (j := 13) rfl) (kl_0 (j := 14) rfl) (kl_0 (j := 15) rfl) rfl hgs hcn hn3 (by decide) ?_
  refine x_scr 4 (kl_0 (j := 16) rfl) (kl_0 (j := 17) rfl) (kl_0 (j := 18) rfl) (kl_0 (j := 19) rfl) (kl_0 (j := 20) rfl) rfl hgs hcn hn3 (by decide) ?_
  refine x_scr 5 (kl_0 (j := 21) rfl) (kl_0 (j := 22) rfl) (kl_0 (j := 23) rfl) (kl_0 (j := 24) rfl) (kl_0 (j := 25) rfl) rfl hgs hcn hn3 (by decide) ?_
  refine x_inv (as := [.ref 0, .int (s (6 * c + 1)), .int (s (6 * c + 2)), .int (s (6 * c + 3)), .int (s (6 * c + 4)), .int (s (6 * c + 5))]) (rest := []) (kl_0 (j := 26) rfl) rfl rfl (Nat.le_of_ble_eq_true rfl) (Or.inl hn) (rcv_at (cw_fs (w := rW (aUp w 1438 (oE o)) m f RA RB) sp_0 hn) (by decide) (by decide)) (Nat.le_trans (Nat.add_le_add_right hu _) (Nat.le_of_ble_eq_true rfl)) (Nat.le_trans (Nat.add_le_add_right hs _) (Nat.le_of_ble_eq_true rfl)) (c_feed (d := d + 39) (w := rW (aUp w 1438 (oE o)) m f RA RB) b1 b3 hn) (fun v9 w9 hq => ?_) (fun E w9 hx => hx.elim)
  rcases hq with ⟨h1, rfl, rfl⟩ | ⟨h1, rfl, rfl⟩
  · skip
    rw [cw_rw]
    refine x_al (kl_0 (j := 27) rfl) rfl ?_
    refine x_scr 1 (kl_0 (j := 28) rfl) (kl_0 (j := 29) rfl) (kl_0 (j := 30) rfl) (kl_0 (j := 31) rfl) (kl_0 (j := 32) rfl) rfl hgs hcn hn3 (by decide) ?_
    refine x_scr 2 (kl_0 (j := 33) rfl) (kl_0 (j := 34) rfl) (kl_0 (j := 35) rfl) (kl_0 (j := 36) rfl) (kl_0 (j := 37) rfl) rfl hgs hcn hn3 (by decide) ?_
    refine x_scr 3 (kl_0 (j := 38) rfl) (kl_0 (j := 39) rfl) (kl_0 (j := 40) rfl) (kl_0 (j := 41) rfl) (kl_0 (j := 42) rfl) rfl hgs hcn hn3 (by decide) ?_
    refine x_scr 4 (kl_0 (j := 43) rfl) (kl_0 (j := 44) rfl) (kl_0 (j := 45) rfl) (kl_0 (j := 46) rfl) (kl_0 (j := 47) rfl) rfl hgs hcn hn3 (by decide) ?_
    refine x_scr 5 (kl_0 (j := 48) rfl) (kl_0 (j := 49) rfl) (kl_0 (j := 50) rfl) (kl_0 (j := 51) rfl) (kl_0 (j := 52) rfl) rfl hgs hcn hn3 (by decide) ?_
    refine x_inv (as := [.ref 1424, .int (s (6 * c + 1)), .int (s (6 * c + 2)), .int (s (6 * c + 3)), .int (s (6 * c + 4)), .int (s (6 * c + 5))]) (rest := [.int _]) (kl_0 (j := 53) rfl) rfl rfl (Nat.le_of_ble_eq_true rfl) (Or.inl hn) (rcv_at (rw_md (w := cW (aUp w 1438 (oE o)) F A L) hn) (by decide) (by decide)) (Nat.le_trans (Nat.add_le_add_right (Nat.add_le_add_right hu _) _) (Nat.le_of_ble_eq_true rfl)) (Nat.le_trans (Nat.add_le_add_right (Nat.add_le_add_right hs _) _) (Nat.le_of_ble_eq_true rfl)) (r_feed (d := d + 40) (w := cW (aUp w 1438 (oE o)) F A L) b2 b3 hn) (fun v9 w9 hq => ?_) (fun E w9 hx => hx.elim)
    rcases hq with ⟨h2, rfl, rfl⟩ | ⟨h2, rfl, rfl⟩
    rotate_left
    · omega
    rw [← lW_r]
    exact tl_d kt_0 (by rw [Nat.add_assoc]; exact Nat.add_le_add_left (Nat.le_of_ble_eq_true rfl) _) (by rw [Nat.add_assoc]; exact Nat.add_le_add_left (Nat.le_of_ble_eq_true rfl) _) (gs_same hB hvc hK hR hI) go
  · skip
    rw [cw_rw]
    refine x_al (kl_0 (j := 27) rfl) rfl ?_
    refine x_scr 1 (kl_0 (j := 28) rfl) (kl_0 (j := 29) rfl) (kl_0 (j := 30) rfl) (kl_0 (j := 31) rfl) (kl_0 (j := 32) rfl) rfl hgs hcn hn3 (by decide) ?_
    refine x_scr 2 (kl_0 (j := 33) rfl) (kl_0 (j := 34) rfl) (kl_0 (j := 35) rfl) (kl_0 (j := 36) rfl) (kl_0 (j := 37) rfl) rfl hgs hcn hn3 (by decide) ?_
    refine x_scr 3 (kl_0 (j := 38) rfl) (kl_0 (j := 39) rfl) (kl_0 (j := 40) rfl) (kl_0 (j := 41) rfl) (kl_0 (j := 42) rfl) rfl hgs hcn hn3 (by decide) ?_
    refine x_scr 4 (kl_0 (j := 43) rfl) (kl_0 (j := 44) rfl) (kl_0 (j := 45) rfl) (kl_0 (j := 46) rfl) (kl_0 (j := 47) rfl) rfl hgs hcn hn3 (by decide) ?_
    refine x_scr 5 (kl_0 (j := 48) rfl) (kl_0 (j := 49) rfl) (kl_0 (j := 50) rfl) (kl_0 (j := 51) rfl) (kl_0 (j := 52) rfl) rfl hgs hcn hn3 (by decide) ?_
    refine x_inv (as := [.ref 1424, .int (s (6 * c + 1)), .int (s (6 * c + 2)), .int (s (6 * c + 3)), .int (s (6 * c + 4)), .int (s (6 * c + 5))]) (rest := [.int _]) (kl_0 (j := 53) rfl) rfl rfl (Nat.le_of_ble_eq_true rfl) (Or.inl hn) (rcv_at (rw_md (w := cW (aUp w 1438 (oE o)) (udA F 1 (upd (F 1) 1 (nI (en + 20)))) (udA A 2 (fedC (A 2) en (s (6 * c + 1)) (s (6 * c + 2)) (s (6 * c + 3)) (s (6 * c + 4)) (s (6 * c + 5)))) L) hn) (by decide) (by decide)) (Nat.le_trans (Nat.add_le_add_right (Nat.add_le_add_right hu _) _) (Nat.le_of_ble_eq_true rfl)) (Nat.le_trans (Nat.add_le_add_right (Nat.add_le_add_right hs _) _) (Nat.le_of_ble_eq_true rfl)) (r_feed (d := d + 40) (w := cW (aUp w 1438 (oE o)) (udA F 1 (upd (F 1) 1 (nI (en + 20)))) (udA A 2 (fedC (A 2) en (s (6 * c + 1)) (s (6 * c + 2)) (s (6 * c + 3)) (s (6 * c + 4)) (s (6 * c + 5)))) L) b2 b3 hn) (fun v9 w9 hq => ?_) (fun E w9 hx => hx.elim)
    rcases hq with ⟨h2, rfl, rfl⟩ | ⟨h2, rfl, rfl⟩
    · omega
    rw [← lW_r]
    obtain ⟨b', hB'⟩ := hB.fed (x1 := s (6 * c + 1)) (x2 := s (6 * c + 2)) (x3 := s (6 * c + 3)) (x4 := s (6 * c + 4)) (x5 := s (6 * c + 5)) h2
    exact tl_d kt_0 (by rw [Nat.add_assoc]; exact Nat.add_le_add_left (Nat.le_of_ble_eq_true rfl) _) (by rw [Nat.add_assoc]; exact Nat.add_le_add_left (Nat.le_of_ble_eq_true rfl) _) ⟨o, _, _, L, _, f, _, RB, np, nm, nc, nt, ns, nh, v, en + 20, b', rfl, hK.keepC (by rw [udA_ne (by decide)]) (udA_ne (by decide)), by omega, hR.keep hI (fun q h1 h2 => ⟨udA_ne (by omega), udA_ne (by omega)⟩), hI, hB'⟩ go
theorem k_1 (hG : Gs w c W) (hn : w.1 = N0) (hgs : g.1 300 = some (0, n, s)) (hcn : 6 * c + 5 < n) (hn3 : n ≤ 3072) (hri : HRi g) (htx : HTx g) (hu : uc ≤ 5000) (hs : us ≤ 130000) (go : GoT g d w c (uc + 5) (us + 30)) : LX g d W uc us 82 (loL c l5 l6 l7) [] := by
  obtain ⟨o, F, A, L, m, f, RA, RB, np, nm, nc, nt, ns, nh, v, en, b, rfl, hK, hvc, hR, hI, hB⟩ := hG
  have hv : v + 1 < 2 ^ 30 := by omega
  have hB2 := hB
  obtain ⟨⟨b1, b2, b3, b4⟩, b5, b6, b7⟩ := hB2
  refine x_al (kl_1 (j := 0) rfl) rfl ?_
  refine x_scr 1 (kl_1 (j := 1) rfl) (kl_1 (j := 2) rfl) (kl_1 (j := 3) rfl) (kl_1 (j := 4) rfl) (kl_1 (j := 5) rfl) rfl hgs hcn hn3 (by decide) ?_
  refine x_inv (as := [.ref 0, .int (s (6 * c + 1))]) (rest := []) (kl_1 (j := 6) rfl) rfl rfl (Nat.le_of_ble_eq_true rfl) (Or.inl hn) (rcv_at (cw_fs (w := rW (aUp w 1438 (oE o)) m f RA RB) sp_0 hn) (by decide) (by decide)) (Nat.le_trans (Nat.add_le_add_right hu _) (Nat.le_of_ble_eq_true rfl)) (Nat.le_trans (Nat.add_le_add_right hs _) (Nat.le_of_ble_eq_true rfl)) (c_end (d := d + 40) (w := rW (aUp w 1438 (oE o)) m f RA RB) hn) (fun v9 w9 hq => ?_) (fun E w9 hx => hx.elim)
  obtain ⟨rfl, rfl⟩ := hq
  rw [cw_rw, show F 1 1 = m 5 from b1.trans b2.symm]
  refine x_al (kl_1 (j := 7) rfl) rfl ?_
  refine x_scr 1 (kl_1 (j := 8) rfl) (kl_1 (j := 9) rfl) (kl_1 (j := 10) rfl) (kl_1 (j := 11) rfl) (kl_1 (j := 12) rfl) rfl hgs hcn hn3 (by decide) ?_
  refine x_inv (as := [.ref 1424, .int (s (6 * c + 1))]) (rest := [.int _]) (kl_1 (j := 13) rfl) rfl rfl (Nat.le_of_ble_eq_true rfl) (Or.inl hn) (rcv_at (rw_md (w := cW (aUp w 1438 (oE o)) (if 0 ≤ s (6 * c + 1) ∧ s (6 * c + 1) ≤ m 5 then udA F 1 (upd (F 1) 1 (s (6 * c + 1))) else F) A L) hn) (by decide) (by decide)) (Nat.le_trans (Nat.add_le_add_right (Nat.add_le_add_right hu _) _) (Nat.le_of_ble_eq_true rfl)) (Nat.le_trans (Nat.add_le_add_right (Nat.add_le_add_right hs _) _) (Nat.le_of_ble_eq_true rfl)) (r_end (d := d + 40) (w := cW (aUp w 1438 (oE o)) (if 0 ≤ s (6 * c + 1) ∧ s (6 * c + 1) ≤ m 5 then udA F 1 (upd (F 1) 1 (s (6 * c + 1))) else F) A L) hn) (fun v9 w9 hq => ?_) (fun E w9 hx => hx.elim)
  obtain ⟨rfl, RA', rfl, rfl⟩ := hq
  rw [← lW_r]
  obtain ⟨en', hB'⟩ := hB.cut (x := s (6 * c + 1))
  have hq1 : ∀ q, q ≠ 1 → (if 0 ≤ s (6 * c + 1) ∧ s (6 * c + 1) ≤ m 5 then udA F 1 (upd (F 1) 1 (s (6 * c + 1))) else F) q = F q := fun q hq => by
    split
    · exact udA_ne hq
    · rfl
  exact tl_d kt_1 (by rw [Nat.add_assoc]; exact Nat.add_le_add_left (Nat.le_of_ble_eq_true rfl) _) (by rw [Nat.add_assoc]; exact Nat.add_le_add_left (Nat.le_of_ble_eq_true rfl) _) ⟨o, _, A, L, _, f, _, RB, np, nm, nc, nt, ns, nh, v, en', b, rfl, hK.keepC (by rw [hq1 1396 (by decide)]) rfl, by omega, hR.keep hI (fun q h1 h2 => ⟨hq1 q (by omega), rfl⟩), hI, hB'⟩ go
theorem k_2 (hG : Gs w c W) (hn : w.1 = N0) (hgs : g.1 300 = some (0, n, s)) (hcn : 6 * c + 5 < n) (hn3 : n ≤ 3072) (hri : HRi g) (htx : HTx g) (hu : uc ≤ 5000) (hs : us ≤ 130000) (go : GoT g d w c (uc + 5) (us + 30)) : LX g d W uc us 99 (loL c l5 l6 l7) [] := by
  obtain ⟨o, F, A, L, m, f, RA, RB, np, nm, nc, nt, ns, nh, v, en, b, rfl, hK, hvc, hR, hI, hB⟩ := hG
  have hv : v + 1 < 2 ^ 30 := by omega
  have hB2 := hB
  obtain ⟨⟨b1, b2, b3, b4⟩, b5, b6, b7⟩ := hB2
  have hl := l_print (g := g) (d := d + 34) (w := w) (L := L) (o := o) (m := m) (RA := RA) (RB := RB) (dr := RA 1429) hri b7 b4 b1 b3 hK hR hI hn
  have hr := fun (o' : Nat → Int64) (F' A' : Nat → Nat → Int32) (L' : Nat → Int64) => r_print (g := g) (d := d + 36) (w := cW (aUp w 1438 (oE o')) F' A' L') (m := m) (f := f) (A := RA) (B := RB) rfl b2 b3 hI.1.1.1 hI.p60 hn
  generalize pF (RA 1427) en 64 0 (RA 1429) = P at hl hr
  refine x_al (kl_2 (j := 0) rfl) rfl ?_
  refine x_al (kl_2 (j := 1) rfl) rfl ?_
  refine x_inv (as := [.ref 0, .ref 1438]) (rest := []) (kl_2 (j := 2) rfl) rfl rfl (Nat.le_of_ble_eq_true rfl) (Or.inl hn) trivial (Nat.le_trans (Nat.add_le_add_right hu _) (Nat.le_of_ble_eq_true rfl)) (Nat.le_trans (Nat.add_le_add_right hs _) (Nat.le_of_ble_eq_true rfl)) (hl) (fun v9 w9 hq => ?_) (fun E w9 hx => hx.elim)
  obtain ⟨F', A', L', o', rfl, g1, g2, hq⟩ := hq
  rcases hq with ⟨p1, p2, rfl, p3, p4, p5, p6, p7⟩ | ⟨q1, q2, ⟨r1, rfl, r3⟩ | ⟨r1, r2, rfl, r3⟩⟩
  · skip
    refine x_is (lo' := loL c (some (.int 0)) l6 l7) (kl_2 (j := 3) rfl) (Nat.le_of_ble_eq_true rfl) rfl ?_
    refine x_al (kl_2 (j := 4) rfl) rfl ?_
    rw [lW_r]
    refine x_inv (as := [.ref 1424]) (rest := []) (kl_2 (j := 5) rfl) rfl rfl (Nat.le_of_ble_eq_true rfl) (Or.inl hn) (rcv_at (rw_md (w := cW (aUp w 1438 (oE o')) F' A' L') hn) (by decide) (by decide)) (Nat.le_trans (Nat.add_le_add_right (Nat.add_le_add_right hu _) _) (Nat.le_of_ble_eq_true rfl)) (Nat.le_trans (Nat.add_le_add_right (Nat.add_le_add_right hs _) _) (Nat.le_of_ble_eq_true rfl)) (hr o' F' A' L') (fun v9 w9 hq => ?_) (fun E w9 hx => hx.elim)
    obtain ⟨m', f', RA', rfl, m3, m5, hA, hc⟩ := hq
    rw [← lW_r]
    rcases hc with ⟨s1, rfl, hm, s3, rfl⟩ | ⟨s1, s2, rfl, hm, s4, rfl⟩ | ⟨s1, s2, rfl, hm, s4, rfl⟩
    · exact absurd (p1.symm.trans s1) (by decide)
    · exact absurd s2 p2
    · unfold prF at p5 p6 p7
      exact tl_i kt_2 hn hm (fun _ => p3) (by rw [Nat.add_assoc]; exact Nat.add_le_add_left (Nat.le_of_ble_eq_true rfl) _) (by rw [Nat.add_assoc]; exact Nat.add_le_add_left (Nat.le_of_ble_eq_true rfl) _) (by omega) (by omega) ⟨o', F', A', L', m', _, RA', RB, np + 1, nm, nc, nt, ns, nh, v, 0, b, rfl, p7, by omega, p5, p6, hB.read g1 (p4.trans s4.symm) m3 m5 (g2 0 (by omega)).1 (fun q hq => g2 q (by omega)) (hA 1426 (by decide))⟩ go
  · skip
    refine x_is (lo' := loL c (some (.int 1)) l6 l7) (kl_2 (j := 3) rfl) (Nat.le_of_ble_eq_true rfl) rfl ?_
    refine x_al (kl_2 (j := 4) rfl) rfl ?_
    rw [lW_r]
    refine x_inv (as := [.ref 1424]) (rest := []) (kl_2 (j := 5) rfl) rfl rfl (Nat.le_of_ble_eq_true rfl) (Or.inl hn) (rcv_at (rw_md (w := cW (aUp w 1438 (oE o')) F' A' L') hn) (by decide) (by decide)) (Nat.le_trans (Nat.add_le_add_right (Nat.add_le_add_right hu _) _) (Nat.le_of_ble_eq_true rfl)) (Nat.le_trans (Nat.add_le_add_right (Nat.add_le_add_right hs _) _) (Nat.le_of_ble_eq_true rfl)) (hr o' F' A' L') (fun v9 w9 hq => ?_) (fun E w9 hx => hx.elim)
    obtain ⟨m', f', RA', rfl, m3, m5, hA, hc⟩ := hq
    rw [← lW_r]
    rcases hc with ⟨s1, rfl, hm, s3, rfl⟩ | ⟨s1, s2, rfl, hm, s4, rfl⟩ | ⟨s1, s2, rfl, hm, s4, rfl⟩
    · exact tl_i kt_2 hn hm (fun h => absurd h (by decide)) (by rw [Nat.add_assoc]; exact Nat.add_le_add_left (Nat.le_of_ble_eq_true rfl) _) (by rw [Nat.add_assoc]; exact Nat.add_le_add_left (Nat.le_of_ble_eq_true rfl) _) (by omega) (by omega) ⟨o', F', A', L', m', _, RA', RB, np, nm, nc, nt, ns, nh, v, 0, b, rfl, q2, by omega, q1, hI, hB.read g1 (r3.trans s3.symm) m3 m5 (g2 0 (by omega)).1 (fun q hq => g2 q (by omega)) (hA 1426 (by decide))⟩ go
    · exact absurd (s1.symm.trans r1) (by decide)
    · exact absurd (s1.symm.trans r1) (by decide)
  · skip
    refine x_is (lo' := loL c (some (.int 2)) l6 l7) (kl_2 (j := 3) rfl) (Nat.le_of_ble_eq_true rfl) rfl ?_
    refine x_al (kl_2 (j := 4) rfl) rfl ?_
    rw [lW_r]
    refine x_inv (as := [.ref 1424]) (rest := []) (kl_2 (j := 5) rfl) rfl rfl (Nat.le_of_ble_eq_true rfl) (Or.inl hn) (rcv_at (rw_md (w := cW (aUp w 1438 (oE o')) F' A' L') hn) (by decide) (by decide)) (Nat.le_trans (Nat.add_le_add_right (Nat.add_le_add_right hu _) _) (Nat.le_of_ble_eq_true rfl)) (Nat.le_trans (Nat.add_le_add_right (Nat.add_le_add_right hs _) _) (Nat.le_of_ble_eq_true rfl)) (hr o' F' A' L') (fun v9 w9 hq => ?_) (fun E w9 hx => hx.elim)
    obtain ⟨m', f', RA', rfl, m3, m5, hA, hc⟩ := hq
    rw [← lW_r]
    rcases hc with ⟨s1, rfl, hm, s3, rfl⟩ | ⟨s1, s2, rfl, hm, s4, rfl⟩ | ⟨s1, s2, rfl, hm, s4, rfl⟩
    · exact absurd (r1.symm.trans s1) (by decide)
    · exact tl_i kt_2 hn hm (fun h => absurd h (by decide)) (by rw [Nat.add_assoc]; exact Nat.add_le_add_left (Nat.le_of_ble_eq_true rfl) _) (by rw [Nat.add_assoc]; exact Nat.add_le_add_left (Nat.le_of_ble_eq_true rfl) _) (by omega) (by omega) ⟨o', F', A', L', m', _, RA', RB, np, nm, nc, nt, ns, nh, v, 0, b, rfl, q2, by omega, q1, hI, hB.read g1 (r3.trans s4.symm) m3 m5 (g2 0 (by omega)).1 (fun q hq => g2 q (by omega)) (hA 1426 (by decide))⟩ go
    · exact absurd r2 s2
theorem k_3 (hG : Gs w c W) (hn : w.1 = N0) (hgs : g.1 300 = some (0, n, s)) (hcn : 6 * c + 5 < n) (hn3 : n ≤ 3072) (hri : HRi g) (htx : HTx g) (hu : uc ≤ 5000) (hs : us ≤ 130000) (go : GoT g d w c (uc + 5) (us + 30)) : LX g d W uc us 124 (loL c l5 l6 l7) [] := by
  obtain ⟨o, F, A, L, m, f, RA, RB, np, nm, nc, nt, ns, nh, v, en, b, rfl, hK, hvc, hR, hI, hB⟩ := hG
  have hv : v + 1 < 2 ^ 30 := by omega
  have hB2 := hB
  obtain ⟨⟨b1, b2, b3, b4⟩, b5, b6, b7⟩ := hB2
  refine x_al (kl_3 (j := 0) rfl) rfl ?_
  refine x_inv (as := [.ref 0]) (rest := []) (kl_3 (j := 1) rfl) rfl rfl (Nat.le_of_ble_eq_true rfl) (Or.inl hn) (rcv_at (cw_fs (w := rW (aUp w 1438 (oE o)) m f RA RB) sp_0 hn) (by decide) (by decide)) (Nat.le_trans (Nat.add_le_add_right hu _) (Nat.le_of_ble_eq_true rfl)) (Nat.le_trans (Nat.add_le_add_right hs _) (Nat.le_of_ble_eq_true rfl)) (c_fault (d := d + 40) (w := rW (aUp w 1438 (oE o)) m f RA RB) hn) (fun v9 w9 hq => ?_) (fun E w9 hx => hx.elim)
  obtain ⟨rfl, rfl⟩ := hq
  rw [cw_rw, b5]
  refine x_al (kl_3 (j := 2) rfl) rfl ?_
  refine x_inv (as := [.ref 1424]) (rest := [.int _]) (kl_3 (j := 3) rfl) rfl rfl (Nat.le_of_ble_eq_true rfl) (Or.inl hn) (rcv_at (rw_md (w := cW (aUp w 1438 (oE o)) F A L) hn) (by decide) (by decide)) (Nat.le_trans (Nat.add_le_add_right (Nat.add_le_add_right hu _) _) (Nat.le_of_ble_eq_true rfl)) (Nat.le_trans (Nat.add_le_add_right (Nat.add_le_add_right hs _) _) (Nat.le_of_ble_eq_true rfl)) (r_fault (d := d + 40) (w := cW (aUp w 1438 (oE o)) F A L) hn) (fun v9 w9 hq => ?_) (fun E w9 hx => hx.elim)
  obtain ⟨rfl, m', RA', RB', rfl, hm, hk, hA⟩ := hq
  rw [← lW_r]
  exact tl_d kt_3 (by rw [Nat.add_assoc]; exact Nat.add_le_add_left (Nat.le_of_ble_eq_true rfl) _) (by rw [Nat.add_assoc]; exact Nat.add_le_add_left (Nat.le_of_ble_eq_true rfl) _) (gs_ca hB hvc (Nat.le_succ v) ⟨hR, hI, hK, fun _ _ => ⟨rfl, rfl⟩⟩ hk hA) go
theorem k_4 (hG : Gs w c W) (hn : w.1 = N0) (hgs : g.1 300 = some (0, n, s)) (hcn : 6 * c + 5 < n) (hn3 : n ≤ 3072) (hri : HRi g) (htx : HTx g) (hu : uc ≤ 5000) (hs : us ≤ 130000) (go : GoT g d w c (uc + 5) (us + 30)) : LX g d W uc us 131 (loL c l5 l6 l7) [] := by
  obtain ⟨o, F, A, L, m, f, RA, RB, np, nm, nc, nt, ns, nh, v, en, b, rfl, hK, hvc, hR, hI, hB⟩ := hG
  have hv : v + 1 < 2 ^ 30 := by omega
  refine x_al (kl_4 (j := 0) rfl) rfl ?_
  refine x_scr 1 (kl_4 (j := 1) rfl) (kl_4 (j := 2) rfl) (kl_4 (j := 3) rfl) (kl_4 (j := 4) rfl) (kl_4 (j := 5) rfl) rfl hgs hcn hn3 (by decide) ?_
  refine x_scr 2 (kl_4 (j := 6) rfl) (kl_4 (j := 7) rfl) (kl_4 (j := 8) rfl) (kl_4 (j := 9) rfl) (kl_4 (j := 10) rfl) rfl hgs hcn hn3 (by decide) ?_
  refine x_al (kl_4 (j := 11) rfl) rfl ?_
  refine x_inv (as := [.ref 0, .int (s (6 * c + 1)), .int (s (6 * c + 2)), .ref 1438]) (rest := []) (kl_4 (j := 12) rfl) rfl rfl (Nat.le_of_ble_eq_true rfl) (Or.inl hn) trivial (Nat.le_trans (Nat.add_le_add_right hu _) (Nat.le_of_ble_eq_true rfl)) (Nat.le_trans (Nat.add_le_add_right hs _) (Nat.le_of_ble_eq_true rfl)) (l_field (d := d + 37) hK hR hI hn) (fun v9 w9 hq => ?_) (fun E w9 hx => hx.elim)
  obtain ⟨rfl, F', A', L', o', np', nm', nc', nt', ns', nh', v', rfl, hv', hS, ho⟩ := hq
  refine x_is (lo' := loL c (some (.int _)) l6 l7) (kl_4 (j := 13) rfl) (Nat.le_of_ble_eq_true rfl) rfl ?_
  refine x_al (kl_4 (j := 14) rfl) rfl ?_
  refine x_scr 1 (kl_4 (j := 15) rfl) (kl_4 (j := 16) rfl) (kl_4 (j := 17) rfl) (kl_4 (j := 18) rfl) (kl_4 (j := 19) rfl) rfl hgs hcn hn3 (by decide) ?_
  refine x_scr 2 (kl_4 (j := 20) rfl) (kl_4 (j := 21) rfl) (kl_4 (j := 22) rfl) (kl_4 (j := 23) rfl) (kl_4 (j := 24) rfl) rfl hgs hcn hn3 (by decide) ?_
  rw [lW_r]
  refine x_inv (as := [.ref 1424, .int (s (6 * c + 1)), .int (s (6 * c + 2))]) (rest := []) (kl_4 (j := 25) rfl) rfl rfl (Nat.le_of_ble_eq_true rfl) (Or.inl hn) (rcv_at (rw_md (w := cW (aUp w 1438 (oE o')) F' A' L') hn) (by decide) (by decide)) (Nat.le_trans (Nat.add_le_add_right (Nat.add_le_add_right hu _) _) (Nat.le_of_ble_eq_true rfl)) (Nat.le_trans (Nat.add_le_add_right (Nat.add_le_add_right hs _) _) (Nat.le_of_ble_eq_true rfl)) (r_field (d := d + 36) (w := cW (aUp w 1438 (oE o')) F' A' L') hI.1.1.1 hI.p60 hn) (fun v9 w9 hq => ?_) (fun E w9 hx => hx.elim)
  obtain ⟨rfl, m', RA', RB', rfl, hm, hk, hA⟩ := hq
  rw [← lW_r]
  exact tl_i kt_4 hn hm ho (by rw [Nat.add_assoc]; exact Nat.add_le_add_left (Nat.le_of_ble_eq_true rfl) _) (by rw [Nat.add_assoc]; exact Nat.add_le_add_left (Nat.le_of_ble_eq_true rfl) _) (by omega) (by omega) (gs_ca hB hvc hv' hS hk hA) go
theorem k_5 (hG : Gs w c W) (hn : w.1 = N0) (hgs : g.1 300 = some (0, n, s)) (hcn : 6 * c + 5 < n) (hn3 : n ≤ 3072) (hri : HRi g) (htx : HTx g) (hu : uc ≤ 5000) (hs : us ≤ 130000) (go : GoT g d w c (uc + 5) (us + 30)) : LX g d W uc us 176 (loL c l5 l6 l7) [] := by
  obtain ⟨o, F, A, L, m, f, RA, RB, np, nm, nc, nt, ns, nh, v, en, b, rfl, hK, hvc, hR, hI, hB⟩ := hG
  have hv : v + 1 < 2 ^ 30 := by omega
  refine x_al (kl_5 (j := 0) rfl) rfl ?_
  refine x_scr 1 (kl_5 (j := 1) rfl) (kl_5 (j := 2) rfl) (kl_5 (j := 3) rfl) (kl_5 (j := 4) rfl) (kl_5 (j := 5) rfl) rfl hgs hcn hn3 (by decide) ?_
  refine x_scr 2 (kl_5 (j := 6) rfl) (kl_5 (j := 7) rfl) (kl_5 (j := 8) rfl) (kl_5 (j := 9) rfl) (kl_5 (j := 10) rfl) rfl hgs hcn hn3 (by decide) ?_
  refine x_al (kl_5 (j := 11) rfl) rfl ?_
  refine x_inv (as := [.ref 0, .int (s (6 * c + 1)), .int (s (6 * c + 2)), .ref 1438]) (rest := []) (kl_5 (j := 12) rfl) rfl rfl (Nat.le_of_ble_eq_true rfl) (Or.inl hn) trivial (Nat.le_trans (Nat.add_le_add_right hu _) (Nat.le_of_ble_eq_true rfl)) (Nat.le_trans (Nat.add_le_add_right hs _) (Nat.le_of_ble_eq_true rfl)) (l_turn (d := d + 37) hK hR hI hn) (fun v9 w9 hq => ?_) (fun E w9 hx => hx.elim)
  obtain ⟨rfl, F', A', L', o', np', nm', nc', nt', ns', nh', v', rfl, hv', hS, ho⟩ := hq
  refine x_is (lo' := loL c (some (.int _)) l6 l7) (kl_5 (j := 13) rfl) (Nat.le_of_ble_eq_true rfl) rfl ?_
  refine x_al (kl_5 (j := 14) rfl) rfl ?_
  refine x_scr 1 (kl_5 (j := 15) rfl) (kl_5 (j := 16) rfl) (kl_5 (j := 17) rfl) (kl_5 (j := 18) rfl) (kl_5 (j := 19) rfl) rfl hgs hcn hn3 (by decide) ?_
  refine x_scr 2 (kl_5 (j := 20) rfl) (kl_5 (j := 21) rfl) (kl_5 (j := 22) rfl) (kl_5 (j := 23) rfl) (kl_5 (j := 24) rfl) rfl hgs hcn hn3 (by decide) ?_
  rw [lW_r]
  refine x_inv (as := [.ref 1424, .int (s (6 * c + 1)), .int (s (6 * c + 2))]) (rest := []) (kl_5 (j := 25) rfl) rfl rfl (Nat.le_of_ble_eq_true rfl) (Or.inl hn) (rcv_at (rw_md (w := cW (aUp w 1438 (oE o')) F' A' L') hn) (by decide) (by decide)) (Nat.le_trans (Nat.add_le_add_right (Nat.add_le_add_right hu _) _) (Nat.le_of_ble_eq_true rfl)) (Nat.le_trans (Nat.add_le_add_right (Nat.add_le_add_right hs _) _) (Nat.le_of_ble_eq_true rfl)) (r_turn (d := d + 36) (w := cW (aUp w 1438 (oE o')) F' A' L') hI.1.1.1 hI.p60 hn) (fun v9 w9 hq => ?_) (fun E w9 hx => hx.elim)
  obtain ⟨rfl, m', RA', RB', rfl, hm, hk, hA⟩ := hq
  rw [← lW_r]
  exact tl_i kt_5 hn hm ho (by rw [Nat.add_assoc]; exact Nat.add_le_add_left (Nat.le_of_ble_eq_true rfl) _) (by rw [Nat.add_assoc]; exact Nat.add_le_add_left (Nat.le_of_ble_eq_true rfl) _) (by omega) (by omega) (gs_ca hB hvc hv' hS hk hA) go
theorem k_6 (hG : Gs w c W) (hn : w.1 = N0) (hgs : g.1 300 = some (0, n, s)) (hcn : 6 * c + 5 < n) (hn3 : n ≤ 3072) (hri : HRi g) (htx : HTx g) (hu : uc ≤ 5000) (hs : us ≤ 130000) (go : GoT g d w c (uc + 5) (us + 30)) : LX g d W uc us 221 (loL c l5 l6 l7) [] := by
  obtain ⟨o, F, A, L, m, f, RA, RB, np, nm, nc, nt, ns, nh, v, en, b, rfl, hK, hvc, hR, hI, hB⟩ := hG
  have hv : v + 1 < 2 ^ 30 := by omega
  refine x_al (kl_6 (j := 0) rfl) rfl ?_
  refine x_scr 1 (kl_6 (j := 1) rfl) (kl_6 (j := 2) rfl) (kl_6 (j := 3) rfl) (kl_6 (j := 4) rfl) (kl_6 (j := 5) rfl) rfl hgs hcn hn3 (by decide) ?_
  refine x_al (kl_6 (j := 6) rfl) rfl ?_
  refine x_inv (as := [.ref 0, .int (s (6 * c + 1)), .ref 1438]) (rest := []) (kl_6 (j := 7) rfl) rfl rfl (Nat.le_of_ble_eq_true rfl) (Or.inl hn) trivial (Nat.le_trans (Nat.add_le_add_right hu _) (Nat.le_of_ble_eq_true rfl)) (Nat.le_trans (Nat.add_le_add_right hs _) (Nat.le_of_ble_eq_true rfl)) (l_pattern (d := d + 37) hK hR hI hn) (fun v9 w9 hq => ?_) (fun E w9 hx => hx.elim)
  obtain ⟨rfl, F', A', L', o', np', nm', nc', nt', ns', nh', v', rfl, hv', hS, ho⟩ := hq
  refine x_is (lo' := loL c (some (.int _)) l6 l7) (kl_6 (j := 8) rfl) (Nat.le_of_ble_eq_true rfl) rfl ?_
  refine x_al (kl_6 (j := 9) rfl) rfl ?_
  refine x_scr 1 (kl_6 (j := 10) rfl) (kl_6 (j := 11) rfl) (kl_6 (j := 12) rfl) (kl_6 (j := 13) rfl) (kl_6 (j := 14) rfl) rfl hgs hcn hn3 (by decide) ?_
  rw [lW_r]
  refine x_inv (as := [.ref 1424, .int (s (6 * c + 1))]) (rest := []) (kl_6 (j := 15) rfl) rfl rfl (Nat.le_of_ble_eq_true rfl) (Or.inl hn) (rcv_at (rw_md (w := cW (aUp w 1438 (oE o')) F' A' L') hn) (by decide) (by decide)) (Nat.le_trans (Nat.add_le_add_right (Nat.add_le_add_right hu _) _) (Nat.le_of_ble_eq_true rfl)) (Nat.le_trans (Nat.add_le_add_right (Nat.add_le_add_right hs _) _) (Nat.le_of_ble_eq_true rfl)) (r_pattern (d := d + 34) (w := cW (aUp w 1438 (oE o')) F' A' L') hI.1.1.1 hI.p60 hn) (fun v9 w9 hq => ?_) (fun E w9 hx => hx.elim)
  obtain ⟨rfl, m', RA', RB', rfl, hm, hk, hA⟩ := hq
  rw [← lW_r]
  exact tl_i kt_6 hn hm ho (by rw [Nat.add_assoc]; exact Nat.add_le_add_left (Nat.le_of_ble_eq_true rfl) _) (by rw [Nat.add_assoc]; exact Nat.add_le_add_left (Nat.le_of_ble_eq_true rfl) _) (by omega) (by omega) (gs_ca hB hvc hv' hS hk hA) go
theorem k_7 (hG : Gs w c W) (hn : w.1 = N0) (hgs : g.1 300 = some (0, n, s)) (hcn : 6 * c + 5 < n) (hn3 : n ≤ 3072) (hri : HRi g) (htx : HTx g) (hu : uc ≤ 5000) (hs : us ≤ 130000) (go : GoT g d w c (uc + 5) (us + 30)) : LX g d W uc us 256 (loL c l5 l6 l7) [] := by
  obtain ⟨o, F, A, L, m, f, RA, RB, np, nm, nc, nt, ns, nh, v, en, b, rfl, hK, hvc, hR, hI, hB⟩ := hG
  have hv : v + 1 < 2 ^ 30 := by omega
  refine x_al (kl_7 (j := 0) rfl) rfl ?_
  refine x_scr 1 (kl_7 (j := 1) rfl) (kl_7 (j := 2) rfl) (kl_7 (j := 3) rfl) (kl_7 (j := 4) rfl) (kl_7 (j := 5) rfl) rfl hgs hcn hn3 (by decide) ?_
  refine x_scr 2 (kl_7 (j := 6) rfl) (kl_7 (j := 7) rfl) (kl_7 (j := 8) rfl) (kl_7 (j := 9) rfl) (kl_7 (j := 10) rfl) rfl hgs hcn hn3 (by decide) ?_
  refine x_scr 3 (kl_7 (j := 11) rfl) (kl_7 (j := 12) rfl) (kl_7 (j := 13) rfl) (kl_7 (j := 14) rfl) (kl_7 (j := 15) rfl) rfl hgs hcn hn3 (by decide) ?_
  refine x_b01 (kl_7 (j := 16) rfl) (kl_7 (j := 17) rfl) (kl_7 (j := 18) rfl) (kl_7 (j := 19) rfl) rfl ?_
  refine x_al (kl_7 (j := 20) rfl) rfl ?_
  refine x_inv (as := [.ref 0, .int (s (6 * c + 1)), .int (s (6 * c + 2)), .int (bI (decide (¬ (s (6 * c + 3)) = 0))), .ref 1438]) (rest := []) (kl_7 (j := 21) rfl) rfl rfl (Nat.le_of_ble_eq_true rfl) (Or.inl hn) trivial (Nat.le_trans (Nat.add_le_add_right hu _) (Nat.le_of_ble_eq_true rfl)) (Nat.le_trans (Nat.add_le_add_right hs _) (Nat.le_of_ble_eq_true rfl)) (l_singular (d := d + 36) hK hR hI hn) (fun v9 w9 hq => ?_) (fun E w9 hx => hx.elim)
  obtain ⟨rfl, F', A', L', o', np', nm', nc', nt', ns', nh', v', rfl, hv', hS, ho⟩ := hq
  refine x_is (lo' := loL c (some (.int _)) l6 l7) (kl_7 (j := 22) rfl) (Nat.le_of_ble_eq_true rfl) rfl ?_
  refine x_al (kl_7 (j := 23) rfl) rfl ?_
  refine x_scr 1 (kl_7 (j := 24) rfl) (kl_7 (j := 25) rfl) (kl_7 (j := 26) rfl) (kl_7 (j := 27) rfl) (kl_7 (j := 28) rfl) rfl hgs hcn hn3 (by decide) ?_
  refine x_scr 2 (kl_7 (j := 29) rfl) (kl_7 (j := 30) rfl) (kl_7 (j := 31) rfl) (kl_7 (j := 32) rfl) (kl_7 (j := 33) rfl) rfl hgs hcn hn3 (by decide) ?_
  refine x_scr 3 (kl_7 (j := 34) rfl) (kl_7 (j := 35) rfl) (kl_7 (j := 36) rfl) (kl_7 (j := 37) rfl) (kl_7 (j := 38) rfl) rfl hgs hcn hn3 (by decide) ?_
  refine x_b01 (kl_7 (j := 39) rfl) (kl_7 (j := 40) rfl) (kl_7 (j := 41) rfl) (kl_7 (j := 42) rfl) rfl ?_
  rw [lW_r]
  refine x_inv (as := [.ref 1424, .int (s (6 * c + 1)), .int (s (6 * c + 2)), .int (bI (decide (¬ (s (6 * c + 3)) = 0)))]) (rest := []) (kl_7 (j := 43) rfl) rfl rfl (Nat.le_of_ble_eq_true rfl) (Or.inl hn) (rcv_at (rw_md (w := cW (aUp w 1438 (oE o')) F' A' L') hn) (by decide) (by decide)) (Nat.le_trans (Nat.add_le_add_right (Nat.add_le_add_right hu _) _) (Nat.le_of_ble_eq_true rfl)) (Nat.le_trans (Nat.add_le_add_right (Nat.add_le_add_right hs _) _) (Nat.le_of_ble_eq_true rfl)) (r_singular (d := d + 35) (w := cW (aUp w 1438 (oE o')) F' A' L') hI.1.1.1 hI.p60 hn) (fun v9 w9 hq => ?_) (fun E w9 hx => hx.elim)
  obtain ⟨rfl, m', RA', RB', rfl, hm, hk, hA⟩ := hq
  rw [← lW_r]
  exact tl_i kt_7 hn hm ho (by rw [Nat.add_assoc]; exact Nat.add_le_add_left (Nat.le_of_ble_eq_true rfl) _) (by rw [Nat.add_assoc]; exact Nat.add_le_add_left (Nat.le_of_ble_eq_true rfl) _) (by omega) (by omega) (gs_ca hB hvc hv' hS hk hA) go
theorem k_8 (hG : Gs w c W) (hn : w.1 = N0) (hgs : g.1 300 = some (0, n, s)) (hcn : 6 * c + 5 < n) (hn3 : n ≤ 3072) (hri : HRi g) (htx : HTx g) (hu : uc ≤ 5000) (hs : us ≤ 130000) (go : GoT g d w c (uc + 5) (us + 30)) : LX g d W uc us 319 (loL c l5 l6 l7) [] := by
  obtain ⟨o, F, A, L, m, f, RA, RB, np, nm, nc, nt, ns, nh, v, en, b, rfl, hK, hvc, hR, hI, hB⟩ := hG
  have hv : v + 1 < 2 ^ 30 := by omega
  refine x_al (kl_8 (j := 0) rfl) rfl ?_
  refine x_scr 1 (kl_8 (j := 1) rfl) (kl_8 (j := 2) rfl) (kl_8 (j := 3) rfl) (kl_8 (j := 4) rfl) (kl_8 (j := 5) rfl) rfl hgs hcn hn3 (by decide) ?_
  refine x_al (kl_8 (j := 6) rfl) rfl ?_
  refine x_inv (as := [.ref 0, .int (s (6 * c + 1)), .ref 1438]) (rest := []) (kl_8 (j := 7) rfl) rfl rfl (Nat.le_of_ble_eq_true rfl) (Or.inl hn) trivial (Nat.le_trans (Nat.add_le_add_right hu _) (Nat.le_of_ble_eq_true rfl)) (Nat.le_trans (Nat.add_le_add_right hs _) (Nat.le_of_ble_eq_true rfl)) (l_ridges (d := d + 37) hK hR hI hn) (fun v9 w9 hq => ?_) (fun E w9 hx => hx.elim)
  obtain ⟨rfl, F', A', L', o', np', nm', nc', nt', ns', nh', v', rfl, hv', hS, ho⟩ := hq
  refine x_is (lo' := loL c (some (.int _)) l6 l7) (kl_8 (j := 8) rfl) (Nat.le_of_ble_eq_true rfl) rfl ?_
  refine x_al (kl_8 (j := 9) rfl) rfl ?_
  refine x_scr 1 (kl_8 (j := 10) rfl) (kl_8 (j := 11) rfl) (kl_8 (j := 12) rfl) (kl_8 (j := 13) rfl) (kl_8 (j := 14) rfl) rfl hgs hcn hn3 (by decide) ?_
  rw [lW_r]
  refine x_inv (as := [.ref 1424, .int (s (6 * c + 1))]) (rest := []) (kl_8 (j := 15) rfl) rfl rfl (Nat.le_of_ble_eq_true rfl) (Or.inl hn) (rcv_at (rw_md (w := cW (aUp w 1438 (oE o')) F' A' L') hn) (by decide) (by decide)) (Nat.le_trans (Nat.add_le_add_right (Nat.add_le_add_right hu _) _) (Nat.le_of_ble_eq_true rfl)) (Nat.le_trans (Nat.add_le_add_right (Nat.add_le_add_right hs _) _) (Nat.le_of_ble_eq_true rfl)) (r_ridges (d := d + 33) (w := cW (aUp w 1438 (oE o')) F' A' L') hI.1.1.1 hI.p60 hn) (fun v9 w9 hq => ?_) (fun E w9 hx => hx.elim)
  obtain ⟨rfl, m', RA', RB', rfl, hm, hk, hA⟩ := hq
  rw [← lW_r]
  exact tl_i kt_8 hn hm ho (by rw [Nat.add_assoc]; exact Nat.add_le_add_left (Nat.le_of_ble_eq_true rfl) _) (by rw [Nat.add_assoc]; exact Nat.add_le_add_left (Nat.le_of_ble_eq_true rfl) _) (by omega) (by omega) (gs_ca hB hvc hv' hS hk hA) go
theorem k_9 (hG : Gs w c W) (hn : w.1 = N0) (hgs : g.1 300 = some (0, n, s)) (hcn : 6 * c + 5 < n) (hn3 : n ≤ 3072) (hri : HRi g) (htx : HTx g) (hu : uc ≤ 5000) (hs : us ≤ 130000) (go : GoT g d w c (uc + 5) (us + 30)) : LX g d W uc us 354 (loL c l5 l6 l7) [] := by
  obtain ⟨o, F, A, L, m, f, RA, RB, np, nm, nc, nt, ns, nh, v, en, b, rfl, hK, hvc, hR, hI, hB⟩ := hG
  have hv : v + 1 < 2 ^ 30 := by omega
  refine x_al (kl_9 (j := 0) rfl) rfl ?_
  refine x_scr 1 (kl_9 (j := 1) rfl) (kl_9 (j := 2) rfl) (kl_9 (j := 3) rfl) (kl_9 (j := 4) rfl) (kl_9 (j := 5) rfl) rfl hgs hcn hn3 (by decide) ?_
  refine x_scr 2 (kl_9 (j := 6) rfl) (kl_9 (j := 7) rfl) (kl_9 (j := 8) rfl) (kl_9 (j := 9) rfl) (kl_9 (j := 10) rfl) rfl hgs hcn hn3 (by decide) ?_
  refine x_scr 3 (kl_9 (j := 11) rfl) (kl_9 (j := 12) rfl) (kl_9 (j := 13) rfl) (kl_9 (j := 14) rfl) (kl_9 (j := 15) rfl) rfl hgs hcn hn3 (by decide) ?_
  refine x_scr 4 (kl_9 (j := 16) rfl) (kl_9 (j := 17) rfl) (kl_9 (j := 18) rfl) (kl_9 (j := 19) rfl) (kl_9 (j := 20) rfl) rfl hgs hcn hn3 (by decide) ?_
  refine x_scr 5 (kl_9 (j := 21) rfl) (kl_9 (j := 22) rfl) (kl_9 (j := 23) rfl) (kl_9 (j := 24) rfl) (kl_9 (j := 25) rfl) rfl hgs hcn hn3 (by decide) ?_
  refine x_al (kl_9 (j := 26) rfl) rfl ?_
  refine x_inv (as := [.ref 0, .int (s (6 * c + 1)), .int (s (6 * c + 2)), .int (s (6 * c + 3)), .int (s (6 * c + 4)), .int (s (6 * c + 5)), .ref 1438]) (rest := []) (kl_9 (j := 27) rfl) rfl rfl (Nat.le_of_ble_eq_true rfl) (Or.inl hn) trivial (Nat.le_trans (Nat.add_le_add_right hu _) (Nat.le_of_ble_eq_true rfl)) (Nat.le_trans (Nat.add_le_add_right hs _) (Nat.le_of_ble_eq_true rfl)) (l_point (d := d + 36) hK hR hI hv hn) (fun v9 w9 hq => ?_) (fun E w9 hx => hx.elim)
  obtain ⟨rfl, F', A', L', o', np', nm', nc', nt', ns', nh', v', rfl, hv', hS, ho⟩ := hq
  refine x_is (lo' := loL c (some (.int _)) l6 l7) (kl_9 (j := 28) rfl) (Nat.le_of_ble_eq_true rfl) rfl ?_
  refine x_al (kl_9 (j := 29) rfl) rfl ?_
  refine x_scr 1 (kl_9 (j := 30) rfl) (kl_9 (j := 31) rfl) (kl_9 (j := 32) rfl) (kl_9 (j := 33) rfl) (kl_9 (j := 34) rfl) rfl hgs hcn hn3 (by decide) ?_
  refine x_scr 2 (kl_9 (j := 35) rfl) (kl_9 (j := 36) rfl) (kl_9 (j := 37) rfl) (kl_9 (j := 38) rfl) (kl_9 (j := 39) rfl) rfl hgs hcn hn3 (by decide) ?_
  refine x_scr 3 (kl_9 (j := 40) rfl) (kl_9 (j := 41) rfl) (kl_9 (j := 42) rfl) (kl_9 (j := 43) rfl) (kl_9 (j := 44) rfl) rfl hgs hcn hn3 (by decide) ?_
  refine x_scr 4 (kl_9 (j := 45) rfl) (kl_9 (j := 46) rfl) (kl_9 (j := 47) rfl) (kl_9 (j := 48) rfl) (kl_9 (j := 49) rfl) rfl hgs hcn hn3 (by decide) ?_
  refine x_scr 5 (kl_9 (j := 50) rfl) (kl_9 (j := 51) rfl) (kl_9 (j := 52) rfl) (kl_9 (j := 53) rfl) (kl_9 (j := 54) rfl) rfl hgs hcn hn3 (by decide) ?_
  rw [lW_r]
  refine x_inv (as := [.ref 1424, .int (s (6 * c + 1)), .int (s (6 * c + 2)), .int (s (6 * c + 3)), .int (s (6 * c + 4)), .int (s (6 * c + 5))]) (rest := []) (kl_9 (j := 55) rfl) rfl rfl (Nat.le_of_ble_eq_true rfl) (Or.inl hn) (rcv_at (rw_md (w := cW (aUp w 1438 (oE o')) F' A' L') hn) (by decide) (by decide)) (Nat.le_trans (Nat.add_le_add_right (Nat.add_le_add_right hu _) _) (Nat.le_of_ble_eq_true rfl)) (Nat.le_trans (Nat.add_le_add_right (Nat.add_le_add_right hs _) _) (Nat.le_of_ble_eq_true rfl)) (r_point (d := d + 38) (w := cW (aUp w 1438 (oE o')) F' A' L') hI.wp hI.1.1.1 hI.p60 hn) (fun v9 w9 hq => ?_) (fun E w9 hx => hx.elim)
  obtain ⟨rfl, m', RA', RB', rfl, hm, hk, hA⟩ := hq
  rw [← lW_r]
  exact tl_i kt_9 hn hm ho (by rw [Nat.add_assoc]; exact Nat.add_le_add_left (Nat.le_of_ble_eq_true rfl) _) (by rw [Nat.add_assoc]; exact Nat.add_le_add_left (Nat.le_of_ble_eq_true rfl) _) (by omega) (by omega) (gs_ca hB hvc hv' hS hk hA) go
theorem k_10 (hG : Gs w c W) (hn : w.1 = N0) (hgs : g.1 300 = some (0, n, s)) (hcn : 6 * c + 5 < n) (hn3 : n ≤ 3072) (hri : HRi g) (htx : HTx g) (hu : uc ≤ 5000) (hs : us ≤ 130000) (go : GoT g d w c (uc + 5) (us + 30)) : LX g d W uc us 429 (loL c l5 l6 l7) [] := by
  obtain ⟨o, F, A, L, m, f, RA, RB, np, nm, nc, nt, ns, nh, v, en, b, rfl, hK, hvc, hR, hI, hB⟩ := hG
  have hv : v + 1 < 2 ^ 30 := by omega
  refine x_al (kl_10 (j := 0) rfl) rfl ?_
  refine x_scr 1 (kl_10 (j := 1) rfl) (kl_10 (j := 2) rfl) (kl_10 (j := 3) rfl) (kl_10 (j := 4) rfl) (kl_10 (j := 5) rfl) rfl hgs hcn hn3 (by decide) ?_
  refine x_scr 2 (kl_10 (j := 6) rfl) (kl_10 (j := 7) rfl) (kl_10 (j := 8) rfl) (kl_10 (j := 9) rfl) (kl_10 (j := 10) rfl) rfl hgs hcn hn3 (by decide) ?_
  refine x_scr 3 (kl_10 (j := 11) rfl) (kl_10 (j := 12) rfl) (kl_10 (j := 13) rfl) (kl_10 (j := 14) rfl) (kl_10 (j := 15) rfl) rfl hgs hcn hn3 (by decide) ?_
  refine x_scr 4 (kl_10 (j := 16) rfl) (kl_10 (j := 17) rfl) (kl_10 (j := 18) rfl) (kl_10 (j := 19) rfl) (kl_10 (j := 20) rfl) rfl hgs hcn hn3 (by decide) ?_
  refine x_scr 5 (kl_10 (j := 21) rfl) (kl_10 (j := 22) rfl) (kl_10 (j := 23) rfl) (kl_10 (j := 24) rfl) (kl_10 (j := 25) rfl) rfl hgs hcn hn3 (by decide) ?_
  refine x_b01 (kl_10 (j := 26) rfl) (kl_10 (j := 27) rfl) (kl_10 (j := 28) rfl) (kl_10 (j := 29) rfl) rfl ?_
  refine x_al (kl_10 (j := 30) rfl) rfl ?_
  refine x_inv (as := [.ref 0, .int (s (6 * c + 1)), .int (s (6 * c + 2)), .int (s (6 * c + 3)), .int (s (6 * c + 4)), .int (bI (decide (¬ (s (6 * c + 5)) = 0))), .ref 1438]) (rest := []) (kl_10 (j := 31) rfl) rfl rfl (Nat.le_of_ble_eq_true rfl) (Or.inl hn) trivial (Nat.le_trans (Nat.add_le_add_right hu _) (Nat.le_of_ble_eq_true rfl)) (Nat.le_trans (Nat.add_le_add_right hs _) (Nat.le_of_ble_eq_true rfl)) (l_mark (d := d + 37) hK hR hI hn) (fun v9 w9 hq => ?_) (fun E w9 hx => hx.elim)
  obtain ⟨rfl, F', A', L', o', np', nm', nc', nt', ns', nh', v', rfl, hv', hS, ho⟩ := hq
  refine x_is (lo' := loL c (some (.int _)) l6 l7) (kl_10 (j := 32) rfl) (Nat.le_of_ble_eq_true rfl) rfl ?_
  refine x_al (kl_10 (j := 33) rfl) rfl ?_
  refine x_scr 1 (kl_10 (j := 34) rfl) (kl_10 (j := 35) rfl) (kl_10 (j := 36) rfl) (kl_10 (j := 37) rfl) (kl_10 (j := 38) rfl) rfl hgs hcn hn3 (by decide) ?_
  refine x_scr 2 (kl_10 (j := 39) rfl) (kl_10 (j := 40) rfl) (kl_10 (j := 41) rfl) (kl_10 (j := 42) rfl) (kl_10 (j := 43) rfl) rfl hgs hcn hn3 (by decide) ?_
  refine x_scr 3 (kl_10 (j := 44) rfl) (kl_10 (j := 45) rfl) (kl_10 (j := 46) rfl) (kl_10 (j := 47) rfl) (kl_10 (j := 48) rfl) rfl hgs hcn hn3 (by decide) ?_
  refine x_scr 4 (kl_10 (j := 49) rfl) (kl_10 (j := 50) rfl) (kl_10 (j := 51) rfl) (kl_10 (j := 52) rfl) (kl_10 (j := 53) rfl) rfl hgs hcn hn3 (by decide) ?_
  refine x_scr 5 (kl_10 (j := 54) rfl) (kl_10 (j := 55) rfl) (kl_10 (j := 56) rfl) (kl_10 (j := 57) rfl) (kl_10 (j := 58) rfl) rfl hgs hcn hn3 (by decide) ?_
  refine x_b01 (kl_10 (j := 59) rfl) (kl_10 (j := 60) rfl) (kl_10 (j := 61) rfl) (kl_10 (j := 62) rfl) rfl ?_
  rw [lW_r]
  refine x_inv (as := [.ref 1424, .int (s (6 * c + 1)), .int (s (6 * c + 2)), .int (s (6 * c + 3)), .int (s (6 * c + 4)), .int (bI (decide (¬ (s (6 * c + 5)) = 0)))]) (rest := []) (kl_10 (j := 63) rfl) rfl rfl (Nat.le_of_ble_eq_true rfl) (Or.inl hn) (rcv_at (rw_md (w := cW (aUp w 1438 (oE o')) F' A' L') hn) (by decide) (by decide)) (Nat.le_trans (Nat.add_le_add_right (Nat.add_le_add_right hu _) _) (Nat.le_of_ble_eq_true rfl)) (Nat.le_trans (Nat.add_le_add_right (Nat.add_le_add_right hs _) _) (Nat.le_of_ble_eq_true rfl)) (r_mark (d := d + 39) (w := cW (aUp w 1438 (oE o')) F' A' L') hI.1.2.1.1 hI.m20 hn) (fun v9 w9 hq => ?_) (fun E w9 hx => hx.elim)
  obtain ⟨rfl, m', RA', RB', rfl, hm, hk, hA⟩ := hq
  rw [← lW_r]
  exact tl_i kt_10 hn hm ho (by rw [Nat.add_assoc]; exact Nat.add_le_add_left (Nat.le_of_ble_eq_true rfl) _) (by rw [Nat.add_assoc]; exact Nat.add_le_add_left (Nat.le_of_ble_eq_true rfl) _) (by omega) (by omega) (gs_ca hB hvc hv' hS hk hA) go
theorem k_11 (hG : Gs w c W) (hn : w.1 = N0) (hgs : g.1 300 = some (0, n, s)) (hcn : 6 * c + 5 < n) (hn3 : n ≤ 3072) (hri : HRi g) (htx : HTx g) (hu : uc ≤ 5000) (hs : us ≤ 130000) (go : GoT g d w c (uc + 5) (us + 30)) : LX g d W uc us 512 (loL c l5 l6 l7) [] := by
  obtain ⟨o, F, A, L, m, f, RA, RB, np, nm, nc, nt, ns, nh, v, en, b, rfl, hK, hvc, hR, hI, hB⟩ := hG
  have hv : v + 1 < 2 ^ 30 := by omega
  refine x_al (kl_11 (j := 0) rfl) rfl ?_
  refine x_scr 1 (kl_11 (j := 1) rfl) (kl_11 (j := 2) rfl) (kl_11 (j := 3) rfl) (kl_11 (j := 4) rfl) (kl_11 (j := 5) rfl) rfl hgs hcn hn3 (by decide) ?_
  refine x_scr 2 (kl_11 (j := 6) rfl) (kl_11 (j := 7) rfl) (kl_11 (j := 8) rfl) (kl_11 (j := 9) rfl) (kl_11 (j := 10) rfl) rfl hgs hcn hn3 (by decide) ?_
  refine x_scr 3 (kl_11 (j := 11) rfl) (kl_11 (j := 12) rfl) (kl_11 (j := 13) rfl) (kl_11 (j := 14) rfl) (kl_11 (j := 15) rfl) rfl hgs hcn hn3 (by decide) ?_
  refine x_scr 4 (kl_11 (j := 16) rfl) (kl_11 (j := 17) rfl) (kl_11 (j := 18) rfl) (kl_11 (j := 19) rfl) (kl_11 (j := 20) rfl) rfl hgs hcn hn3 (by decide) ?_
  refine x_scr 5 (kl_11 (j := 21) rfl) (kl_11 (j := 22) rfl) (kl_11 (j := 23) rfl) (kl_11 (j := 24) rfl) (kl_11 (j := 25) rfl) rfl hgs hcn hn3 (by decide) ?_
  refine x_al (kl_11 (j := 26) rfl) rfl ?_
  refine x_inv (as := [.ref 0, .int (s (6 * c + 1)), .int (s (6 * c + 2)), .int (s (6 * c + 3)), .int (s (6 * c + 4)), .int (s (6 * c + 5)), .ref 1438]) (rest := []) (kl_11 (j := 27) rfl) rfl rfl (Nat.le_of_ble_eq_true rfl) (Or.inl hn) trivial (Nat.le_trans (Nat.add_le_add_right hu _) (Nat.le_of_ble_eq_true rfl)) (Nat.le_trans (Nat.add_le_add_right hs _) (Nat.le_of_ble_eq_true rfl)) (l_spot (d := d + 36) hK hR hI hv hn) (fun v9 w9 hq => ?_) (fun E w9 hx => hx.elim)
  obtain ⟨rfl, F', A', L', o', np', nm', nc', nt', ns', nh', v', rfl, hv', hS, ho⟩ := hq
  refine x_is (lo' := loL c (some (.int _)) l6 l7) (kl_11 (j := 28) rfl) (Nat.le_of_ble_eq_true rfl) rfl ?_
  refine x_al (kl_11 (j := 29) rfl) rfl ?_
  refine x_scr 1 (kl_11 (j := 30) rfl) (kl_11 (j := 31) rfl) (kl_11 (j := 32) rfl) (kl_11 (j := 33) rfl) (kl_11 (j := 34) rfl) rfl hgs hcn hn3 (by decide) ?_
  refine x_scr 2 (kl_11 (j := 35) rfl) (kl_11 (j := 36) rfl) (kl_11 (j := 37) rfl) (kl_11 (j := 38) rfl) (kl_11 (j := 39) rfl) rfl hgs hcn hn3 (by decide) ?_
  refine x_scr 3 (kl_11 (j := 40) rfl) (kl_11 (j := 41) rfl) (kl_11 (j := 42) rfl) (kl_11 (j := 43) rfl) (kl_11 (j := 44) rfl) rfl hgs hcn hn3 (by decide) ?_
  refine x_scr 4 (kl_11 (j := 45) rfl) (kl_11 (j := 46) rfl) (kl_11 (j := 47) rfl) (kl_11 (j := 48) rfl) (kl_11 (j := 49) rfl) rfl hgs hcn hn3 (by decide) ?_
  refine x_scr 5 (kl_11 (j := 50) rfl) (kl_11 (j := 51) rfl) (kl_11 (j := 52) rfl) (kl_11 (j := 53) rfl) (kl_11 (j := 54) rfl) rfl hgs hcn hn3 (by decide) ?_
  rw [lW_r]
  refine x_inv (as := [.ref 1424, .int (s (6 * c + 1)), .int (s (6 * c + 2)), .int (s (6 * c + 3)), .int (s (6 * c + 4)), .int (s (6 * c + 5))]) (rest := []) (kl_11 (j := 55) rfl) rfl rfl (Nat.le_of_ble_eq_true rfl) (Or.inl hn) (rcv_at (rw_md (w := cW (aUp w 1438 (oE o')) F' A' L') hn) (by decide) (by decide)) (Nat.le_trans (Nat.add_le_add_right (Nat.add_le_add_right hu _) _) (Nat.le_of_ble_eq_true rfl)) (Nat.le_trans (Nat.add_le_add_right (Nat.add_le_add_right hs _) _) (Nat.le_of_ble_eq_true rfl)) (r_spot (d := d + 38) (w := cW (aUp w 1438 (oE o')) F' A' L') hI.wp hI.1.2.1.1 hI.m20 hn) (fun v9 w9 hq => ?_) (fun E w9 hx => hx.elim)
  obtain ⟨rfl, m', RA', RB', rfl, hm, hk, hA⟩ := hq
  rw [← lW_r]
  exact tl_i kt_11 hn hm ho (by rw [Nat.add_assoc]; exact Nat.add_le_add_left (Nat.le_of_ble_eq_true rfl) _) (by rw [Nat.add_assoc]; exact Nat.add_le_add_left (Nat.le_of_ble_eq_true rfl) _) (by omega) (by omega) (gs_ca hB hvc hv' hS hk hA) go
theorem k_12 (hG : Gs w c W) (hn : w.1 = N0) (hgs : g.1 300 = some (0, n, s)) (hcn : 6 * c + 5 < n) (hn3 : n ≤ 3072) (hri : HRi g) (htx : HTx g) (hu : uc ≤ 5000) (hs : us ≤ 130000) (go : GoT g d w c (uc + 5) (us + 30)) : LX g d W uc us 587 (loL c l5 l6 l7) [] := by
  obtain ⟨o, F, A, L, m, f, RA, RB, np, nm, nc, nt, ns, nh, v, en, b, rfl, hK, hvc, hR, hI, hB⟩ := hG
  have hv : v + 1 < 2 ^ 30 := by omega
  refine x_al (kl_12 (j := 0) rfl) rfl ?_
  refine x_scr 1 (kl_12 (j := 1) rfl) (kl_12 (j := 2) rfl) (kl_12 (j := 3) rfl) (kl_12 (j := 4) rfl) (kl_12 (j := 5) rfl) rfl hgs hcn hn3 (by decide) ?_
  refine x_inv (as := [.ref 0, .int (s (6 * c + 1))]) (rest := []) (kl_12 (j := 6) rfl) rfl rfl (Nat.le_of_ble_eq_true rfl) (Or.inl hn) trivial (Nat.le_trans (Nat.add_le_add_right hu _) (Nat.le_of_ble_eq_true rfl)) (Nat.le_trans (Nat.add_le_add_right hs _) (Nat.le_of_ble_eq_true rfl)) (l_slack (d := d + 38) hK hR hI hv hn) (fun v9 w9 hq => ?_) (fun E w9 hx => hx.elim)
  obtain ⟨rfl, F', A', L', o', np', nm', nc', nt', ns', nh', v', rfl, hv', hS⟩ := hq
  refine x_is (lo' := loL c (some (.int _)) l6 l7) (kl_12 (j := 7) rfl) (Nat.le_of_ble_eq_true rfl) rfl ?_
  refine x_al (kl_12 (j := 8) rfl) rfl ?_
  refine x_scr 1 (kl_12 (j := 9) rfl) (kl_12 (j := 10) rfl) (kl_12 (j := 11) rfl) (kl_12 (j := 12) rfl) (kl_12 (j := 13) rfl) rfl hgs hcn hn3 (by decide) ?_
  rw [lW_r]
  refine x_inv (as := [.ref 1424, .int (s (6 * c + 1))]) (rest := []) (kl_12 (j := 14) rfl) rfl rfl (Nat.le_of_ble_eq_true rfl) (Or.inl hn) (rcv_at (rw_md (w := cW (aUp w 1438 (oE o')) F' A' L') hn) (by decide) (by decide)) (Nat.le_trans (Nat.add_le_add_right (Nat.add_le_add_right hu _) _) (Nat.le_of_ble_eq_true rfl)) (Nat.le_trans (Nat.add_le_add_right (Nat.add_le_add_right hs _) _) (Nat.le_of_ble_eq_true rfl)) (r_slack (d := d + 39) (w := cW (aUp w 1438 (oE o')) F' A' L') hn) (fun v9 w9 hq => ?_) (fun E w9 hx => hx.elim)
  obtain ⟨rfl, m', RA', RB', rfl, hm, hk, hA⟩ := hq
  rw [← lW_r]
  exact tl_v kt_12 hn hm (by rw [Nat.add_assoc]; exact Nat.add_le_add_left (Nat.le_of_ble_eq_true rfl) _) (by rw [Nat.add_assoc]; exact Nat.add_le_add_left (Nat.le_of_ble_eq_true rfl) _) (by omega) (by omega) (gs_ca hB hvc hv' hS hk hA) go
theorem k_13 (hG : Gs w c W) (hn : w.1 = N0) (hgs : g.1 300 = some (0, n, s)) (hcn : 6 * c + 5 < n) (hn3 : n ≤ 3072) (hri : HRi g) (htx : HTx g) (hu : uc ≤ 5000) (hs : us ≤ 130000) (go : GoT g d w c (uc + 5) (us + 30)) : LX g d W uc us 609 (loL c l5 l6 l7) [] := by
  obtain ⟨o, F, A, L, m, f, RA, RB, np, nm, nc, nt, ns, nh, v, en, b, rfl, hK, hvc, hR, hI, hB⟩ := hG
  have hv : v + 1 < 2 ^ 30 := by omega
  refine x_al (kl_13 (j := 0) rfl) rfl ?_
  refine x_scr 1 (kl_13 (j := 1) rfl) (kl_13 (j := 2) rfl) (kl_13 (j := 3) rfl) (kl_13 (j := 4) rfl) (kl_13 (j := 5) rfl) rfl hgs hcn hn3 (by decide) ?_
  refine x_scr 2 (kl_13 (j := 6) rfl) (kl_13 (j := 7) rfl) (kl_13 (j := 8) rfl) (kl_13 (j := 9) rfl) (kl_13 (j := 10) rfl) rfl hgs hcn hn3 (by decide) ?_
  refine x_scr 3 (kl_13 (j := 11) rfl) (kl_13 (j := 12) rfl) (kl_13 (j := 13) rfl) (kl_13 (j := 14) rfl) (kl_13 (j := 15) rfl) rfl hgs hcn hn3 (by decide) ?_
  refine x_al (kl_13 (j := 16) rfl) rfl ?_
  refine x_inv (as := [.ref 0, .int (s (6 * c + 1)), .int (s (6 * c + 2)), .int (s (6 * c + 3)), .ref 1438]) (rest := []) (kl_13 (j := 17) rfl) rfl rfl (Nat.le_of_ble_eq_true rfl) (Or.inl hn) trivial (Nat.le_trans (Nat.add_le_add_right hu _) (Nat.le_of_ble_eq_true rfl)) (Nat.le_trans (Nat.add_le_add_right hs _) (Nat.le_of_ble_eq_true rfl)) (l_lay (d := d + 27) hK hR hI hn) (fun v9 w9 hq => ?_) (fun E w9 hx => hx.elim)
  obtain ⟨rfl, F', A', L', o', np', nm', nc', nt', ns', nh', v', rfl, hv', hS, ho⟩ := hq
  refine x_is (lo' := loL c (some (.int _)) l6 l7) (kl_13 (j := 18) rfl) (Nat.le_of_ble_eq_true rfl) rfl ?_
  refine x_al (kl_13 (j := 19) rfl) rfl ?_
  refine x_scr 1 (kl_13 (j := 20) rfl) (kl_13 (j := 21) rfl) (kl_13 (j := 22) rfl) (kl_13 (j := 23) rfl) (kl_13 (j := 24) rfl) rfl hgs hcn hn3 (by decide) ?_
  refine x_scr 2 (kl_13 (j := 25) rfl) (kl_13 (j := 26) rfl) (kl_13 (j := 27) rfl) (kl_13 (j := 28) rfl) (kl_13 (j := 29) rfl) rfl hgs hcn hn3 (by decide) ?_
  refine x_scr 3 (kl_13 (j := 30) rfl) (kl_13 (j := 31) rfl) (kl_13 (j := 32) rfl) (kl_13 (j := 33) rfl) (kl_13 (j := 34) rfl) rfl hgs hcn hn3 (by decide) ?_
  rw [lW_r]
  refine x_inv (as := [.ref 1424, .int (s (6 * c + 1)), .int (s (6 * c + 2)), .int (s (6 * c + 3))]) (rest := []) (kl_13 (j := 35) rfl) rfl rfl (Nat.le_of_ble_eq_true rfl) (Or.inl hn) (rcv_at (rw_md (w := cW (aUp w 1438 (oE o')) F' A' L') hn) (by decide) (by decide)) (Nat.le_trans (Nat.add_le_add_right (Nat.add_le_add_right hu _) _) (Nat.le_of_ble_eq_true rfl)) (Nat.le_trans (Nat.add_le_add_right (Nat.add_le_add_right hs _) _) (Nat.le_of_ble_eq_true rfl)) (r_lay (d := d + 27) (w := cW (aUp w 1438 (oE o')) F' A' L') hI.wp hI.1.2.1.1 hI.m20 hI.1.1.1 hI.p60 hn) (fun v9 w9 hq => ?_) (fun E w9 hx => hx.elim)
  obtain ⟨rfl, m', RA', RB', rfl, hm, hk, hA⟩ := hq
  rw [← lW_r]
  exact tl_i kt_13 hn hm ho (by rw [Nat.add_assoc]; exact Nat.add_le_add_left (Nat.le_of_ble_eq_true rfl) _) (by rw [Nat.add_assoc]; exact Nat.add_le_add_left (Nat.le_of_ble_eq_true rfl) _) (by omega) (by omega) (gs_ca hB hvc hv' hS hk hA) go
theorem k_14 (hG : Gs w c W) (hn : w.1 = N0) (hgs : g.1 300 = some (0, n, s)) (hcn : 6 * c + 5 < n) (hn3 : n ≤ 3072) (hri : HRi g) (htx : HTx g) (hu : uc ≤ 5000) (hs : us ≤ 130000) (go : GoT g d w c (uc + 5) (us + 30)) : LX g d W uc us 664 (loL c l5 l6 l7) [] := by
  obtain ⟨o, F, A, L, m, f, RA, RB, np, nm, nc, nt, ns, nh, v, en, b, rfl, hK, hvc, hR, hI, hB⟩ := hG
  have hv : v + 1 < 2 ^ 30 := by omega
  refine x_al (kl_14 (j := 0) rfl) rfl ?_
  refine x_scr 1 (kl_14 (j := 1) rfl) (kl_14 (j := 2) rfl) (kl_14 (j := 3) rfl) (kl_14 (j := 4) rfl) (kl_14 (j := 5) rfl) rfl hgs hcn hn3 (by decide) ?_
  refine x_al (kl_14 (j := 6) rfl) rfl ?_
  refine x_inv (as := [.ref 0, .int (s (6 * c + 1)), .ref 1438]) (rest := []) (kl_14 (j := 7) rfl) rfl rfl (Nat.le_of_ble_eq_true rfl) (Or.inl hn) trivial (Nat.le_trans (Nat.add_le_add_right hu _) (Nat.le_of_ble_eq_true rfl)) (Nat.le_trans (Nat.add_le_add_right hs _) (Nat.le_of_ble_eq_true rfl)) (l_card (d := d + 37) hK hR hI hn) (fun v9 w9 hq => ?_) (fun E w9 hx => hx.elim)
  obtain ⟨rfl, F', A', L', o', np', nm', nc', nt', ns', nh', v', rfl, hv', hS, ho⟩ := hq
  refine x_is (lo' := loL c (some (.int _)) l6 l7) (kl_14 (j := 8) rfl) (Nat.le_of_ble_eq_true rfl) rfl ?_
  refine x_al (kl_14 (j := 9) rfl) rfl ?_
  refine x_scr 1 (kl_14 (j := 10) rfl) (kl_14 (j := 11) rfl) (kl_14 (j := 12) rfl) (kl_14 (j := 13) rfl) (kl_14 (j := 14) rfl) rfl hgs hcn hn3 (by decide) ?_
  rw [lW_r]
  refine x_inv (as := [.ref 1424, .int (s (6 * c + 1))]) (rest := []) (kl_14 (j := 15) rfl) rfl rfl (Nat.le_of_ble_eq_true rfl) (Or.inl hn) (rcv_at (rw_md (w := cW (aUp w 1438 (oE o')) F' A' L') hn) (by decide) (by decide)) (Nat.le_trans (Nat.add_le_add_right (Nat.add_le_add_right hu _) _) (Nat.le_of_ble_eq_true rfl)) (Nat.le_trans (Nat.add_le_add_right (Nat.add_le_add_right hs _) _) (Nat.le_of_ble_eq_true rfl)) (r_card (d := d + 39) (w := cW (aUp w 1438 (oE o')) F' A' L') hI.1.2.2.1.1 hI.c16 hn) (fun v9 w9 hq => ?_) (fun E w9 hx => hx.elim)
  obtain ⟨rfl, m', RA', RB', rfl, hm, hk, hA⟩ := hq
  rw [← lW_r]
  exact tl_i kt_14 hn hm ho (by rw [Nat.add_assoc]; exact Nat.add_le_add_left (Nat.le_of_ble_eq_true rfl) _) (by rw [Nat.add_assoc]; exact Nat.add_le_add_left (Nat.le_of_ble_eq_true rfl) _) (by omega) (by omega) (gs_ca hB hvc hv' hS hk hA) go
theorem k_15 (hG : Gs w c W) (hn : w.1 = N0) (hgs : g.1 300 = some (0, n, s)) (hcn : 6 * c + 5 < n) (hn3 : n ≤ 3072) (hri : HRi g) (htx : HTx g) (hu : uc ≤ 5000) (hs : us ≤ 130000) (go : GoT g d w c (uc + 5) (us + 30)) : LX g d W uc us 699 (loL c l5 l6 l7) [] := by
  obtain ⟨o, F, A, L, m, f, RA, RB, np, nm, nc, nt, ns, nh, v, en, b, rfl, hK, hvc, hR, hI, hB⟩ := hG
  have hv : v + 1 < 2 ^ 30 := by omega
  refine x_al (kl_15 (j := 0) rfl) rfl ?_
  refine x_scr 1 (kl_15 (j := 1) rfl) (kl_15 (j := 2) rfl) (kl_15 (j := 3) rfl) (kl_15 (j := 4) rfl) (kl_15 (j := 5) rfl) rfl hgs hcn hn3 (by decide) ?_
  refine x_scr 2 (kl_15 (j := 6) rfl) (kl_15 (j := 7) rfl) (kl_15 (j := 8) rfl) (kl_15 (j := 9) rfl) (kl_15 (j := 10) rfl) rfl hgs hcn hn3 (by decide) ?_
  refine x_scr 3 (kl_15 (j := 11) rfl) (kl_15 (j := 12) rfl) (kl_15 (j := 13) rfl) (kl_15 (j := 14) rfl) (kl_15 (j := 15) rfl) rfl hgs hcn hn3 (by decide) ?_
  refine x_al (kl_15 (j := 16) rfl) rfl ?_
  refine x_inv (as := [.ref 0, .int (s (6 * c + 1)), .int (s (6 * c + 2)), .int (s (6 * c + 3)), .ref 1438]) (rest := []) (kl_15 (j := 17) rfl) rfl rfl (Nat.le_of_ble_eq_true rfl) (Or.inl hn) trivial (Nat.le_trans (Nat.add_le_add_right hu _) (Nat.le_of_ble_eq_true rfl)) (Nat.le_trans (Nat.add_le_add_right hs _) (Nat.le_of_ble_eq_true rfl)) (l_finger (d := d + 36) hK hR hI hn) (fun v9 w9 hq => ?_) (fun E w9 hx => hx.elim)
  obtain ⟨rfl, F', A', L', o', np', nm', nc', nt', ns', nh', v', rfl, hv', hS, ho⟩ := hq
  refine x_is (lo' := loL c (some (.int _)) l6 l7) (kl_15 (j := 18) rfl) (Nat.le_of_ble_eq_true rfl) rfl ?_
  refine x_al (kl_15 (j := 19) rfl) rfl ?_
  refine x_scr 1 (kl_15 (j := 20) rfl) (kl_15 (j := 21) rfl) (kl_15 (j := 22) rfl) (kl_15 (j := 23) rfl) (kl_15 (j := 24) rfl) rfl hgs hcn hn3 (by decide) ?_
  refine x_scr 2 (kl_15 (j := 25) rfl) (kl_15 (j := 26) rfl) (kl_15 (j := 27) rfl) (kl_15 (j := 28) rfl) (kl_15 (j := 29) rfl) rfl hgs hcn hn3 (by decide) ?_
  refine x_scr 3 (kl_15 (j := 30) rfl) (kl_15 (j := 31) rfl) (kl_15 (j := 32) rfl) (kl_15 (j := 33) rfl) (kl_15 (j := 34) rfl) rfl hgs hcn hn3 (by decide) ?_
  rw [lW_r]
  refine x_inv (as := [.ref 1424, .int (s (6 * c + 1)), .int (s (6 * c + 2)), .int (s (6 * c + 3))]) (rest := []) (kl_15 (j := 35) rfl) rfl rfl (Nat.le_of_ble_eq_true rfl) (Or.inl hn) (rcv_at (rw_md (w := cW (aUp w 1438 (oE o')) F' A' L') hn) (by decide) (by decide)) (Nat.le_trans (Nat.add_le_add_right (Nat.add_le_add_right hu _) _) (Nat.le_of_ble_eq_true rfl)) (Nat.le_trans (Nat.add_le_add_right (Nat.add_le_add_right hs _) _) (Nat.le_of_ble_eq_true rfl)) (r_finger (d := d + 38) (w := cW (aUp w 1438 (oE o')) F' A' L') hI.1.2.2.1.1 hI.c16 hI.1.1.1 hI.p60 hn) (fun v9 w9 hq => ?_) (fun E w9 hx => hx.elim)
  obtain ⟨rfl, m', RA', RB', rfl, hm, hk, hA⟩ := hq
  rw [← lW_r]
  exact tl_b kt_15 hn hm ho (by rw [Nat.add_assoc]; exact Nat.add_le_add_left (Nat.le_of_ble_eq_true rfl) _) (by rw [Nat.add_assoc]; exact Nat.add_le_add_left (Nat.le_of_ble_eq_true rfl) _) (by omega) (by omega) (gs_ca hB hvc hv' hS hk hA) go
theorem k_16 (hG : Gs w c W) (hn : w.1 = N0) (hgs : g.1 300 = some (0, n, s)) (hcn : 6 * c + 5 < n) (hn3 : n ≤ 3072) (hri : HRi g) (htx : HTx g) (hu : uc ≤ 5000) (hs : us ≤ 130000) (go : GoT g d w c (uc + 5) (us + 30)) : LX g d W uc us 757 (loL c l5 l6 l7) [] := by
  obtain ⟨o, F, A, L, m, f, RA, RB, np, nm, nc, nt, ns, nh, v, en, b, rfl, hK, hvc, hR, hI, hB⟩ := hG
  have hv : v + 1 < 2 ^ 30 := by omega
  refine x_al (kl_16 (j := 0) rfl) rfl ?_
  refine x_scr 1 (kl_16 (j := 1) rfl) (kl_16 (j := 2) rfl) (kl_16 (j := 3) rfl) (kl_16 (j := 4) rfl) (kl_16 (j := 5) rfl) rfl hgs hcn hn3 (by decide) ?_
  refine x_scr 2 (kl_16 (j := 6) rfl) (kl_16 (j := 7) rfl) (kl_16 (j := 8) rfl) (kl_16 (j := 9) rfl) (kl_16 (j := 10) rfl) rfl hgs hcn hn3 (by decide) ?_
  refine x_scr 3 (kl_16 (j := 11) rfl) (kl_16 (j := 12) rfl) (kl_16 (j := 13) rfl) (kl_16 (j := 14) rfl) (kl_16 (j := 15) rfl) rfl hgs hcn hn3 (by decide) ?_
  refine x_al (kl_16 (j := 16) rfl) rfl ?_
  refine x_inv (as := [.ref 0, .int (s (6 * c + 1)), .int (s (6 * c + 2)), .int (s (6 * c + 3)), .ref 1438]) (rest := []) (kl_16 (j := 17) rfl) rfl rfl (Nat.le_of_ble_eq_true rfl) (Or.inl hn) trivial (Nat.le_trans (Nat.add_le_add_right hu _) (Nat.le_of_ble_eq_true rfl)) (Nat.le_trans (Nat.add_le_add_right hs _) (Nat.le_of_ble_eq_true rfl)) (l_doubt (d := d + 36) hK hR hI hn) (fun v9 w9 hq => ?_) (fun E w9 hx => hx.elim)
  obtain ⟨rfl, F', A', L', o', np', nm', nc', nt', ns', nh', v', rfl, hv', hS, ho⟩ := hq
  refine x_is (lo' := loL c (some (.int _)) l6 l7) (kl_16 (j := 18) rfl) (Nat.le_of_ble_eq_true rfl) rfl ?_
  refine x_al (kl_16 (j := 19) rfl) rfl ?_
  refine x_scr 1 (kl_16 (j := 20) rfl) (kl_16 (j := 21) rfl) (kl_16 (j := 22) rfl) (kl_16 (j := 23) rfl) (kl_16 (j := 24) rfl) rfl hgs hcn hn3 (by decide) ?_
  refine x_scr 2 (kl_16 (j := 25) rfl) (kl_16 (j := 26) rfl) (kl_16 (j := 27) rfl) (kl_16 (j := 28) rfl) (kl_16 (j := 29) rfl) rfl hgs hcn hn3 (by decide) ?_
  refine x_scr 3 (kl_16 (j := 30) rfl) (kl_16 (j := 31) rfl) (kl_16 (j := 32) rfl) (kl_16 (j := 33) rfl) (kl_16 (j := 34) rfl) rfl hgs hcn hn3 (by decide) ?_
  rw [lW_r]
  refine x_inv (as := [.ref 1424, .int (s (6 * c + 1)), .int (s (6 * c + 2)), .int (s (6 * c + 3))]) (rest := []) (kl_16 (j := 35) rfl) rfl rfl (Nat.le_of_ble_eq_true rfl) (Or.inl hn) (rcv_at (rw_md (w := cW (aUp w 1438 (oE o')) F' A' L') hn) (by decide) (by decide)) (Nat.le_trans (Nat.add_le_add_right (Nat.add_le_add_right hu _) _) (Nat.le_of_ble_eq_true rfl)) (Nat.le_trans (Nat.add_le_add_right (Nat.add_le_add_right hs _) _) (Nat.le_of_ble_eq_true rfl)) (r_doubt (d := d + 38) (w := cW (aUp w 1438 (oE o')) F' A' L') hI.1.2.2.1.1 hI.c16 hn) (fun v9 w9 hq => ?_) (fun E w9 hx => hx.elim)
  obtain ⟨rfl, m', RA', RB', rfl, hm, hk, hA⟩ := hq
  rw [← lW_r]
  exact tl_b kt_16 hn hm ho (by rw [Nat.add_assoc]; exact Nat.add_le_add_left (Nat.le_of_ble_eq_true rfl) _) (by rw [Nat.add_assoc]; exact Nat.add_le_add_left (Nat.le_of_ble_eq_true rfl) _) (by omega) (by omega) (gs_ca hB hvc hv' hS hk hA) go
theorem k_17 (hG : Gs w c W) (hn : w.1 = N0) (hgs : g.1 300 = some (0, n, s)) (hcn : 6 * c + 5 < n) (hn3 : n ≤ 3072) (hri : HRi g) (htx : HTx g) (hu : uc ≤ 5000) (hs : us ≤ 130000) (go : GoT g d w c (uc + 5) (us + 30)) : LX g d W uc us 815 (loL c l5 l6 l7) [] := by
  obtain ⟨o, F, A, L, m, f, RA, RB, np, nm, nc, nt, ns, nh, v, en, b, rfl, hK, hvc, hR, hI, hB⟩ := hG
  have hv : v + 1 < 2 ^ 30 := by omega
  refine x_al (kl_17 (j := 0) rfl) rfl ?_
  refine x_scr 1 (kl_17 (j := 1) rfl) (kl_17 (j := 2) rfl) (kl_17 (j := 3) rfl) (kl_17 (j := 4) rfl) (kl_17 (j := 5) rfl) rfl hgs hcn hn3 (by decide) ?_
  refine x_scr 2 (kl_17 (j := 6) rfl) (kl_17 (j := 7) rfl) (kl_17 (j := 8) rfl) (kl_17 (j := 9) rfl) (kl_17 (j := 10) rfl) rfl hgs hcn hn3 (by decide) ?_
  refine x_al (kl_17 (j := 11) rfl) rfl ?_
  refine x_inv (as := [.ref 0, .int (s (6 * c + 1)), .int (s (6 * c + 2)), .ref 1438]) (rest := []) (kl_17 (j := 12) rfl) rfl rfl (Nat.le_of_ble_eq_true rfl) (Or.inl hn) trivial (Nat.le_trans (Nat.add_le_add_right hu _) (Nat.le_of_ble_eq_true rfl)) (Nat.le_trans (Nat.add_le_add_right hs _) (Nat.le_of_ble_eq_true rfl)) (l_kind (d := d + 35) hK hR hI hn) (fun v9 w9 hq => ?_) (fun E w9 hx => hx.elim)
  obtain ⟨rfl, F', A', L', o', np', nm', nc', nt', ns', nh', v', rfl, hv', hS, ho⟩ := hq
  refine x_is (lo' := loL c (some (.int _)) l6 l7) (kl_17 (j := 13) rfl) (Nat.le_of_ble_eq_true rfl) rfl ?_
  refine x_al (kl_17 (j := 14) rfl) rfl ?_
  refine x_scr 1 (kl_17 (j := 15) rfl) (kl_17 (j := 16) rfl) (kl_17 (j := 17) rfl) (kl_17 (j := 18) rfl) (kl_17 (j := 19) rfl) rfl hgs hcn hn3 (by decide) ?_
  refine x_scr 2 (kl_17 (j := 20) rfl) (kl_17 (j := 21) rfl) (kl_17 (j := 22) rfl) (kl_17 (j := 23) rfl) (kl_17 (j := 24) rfl) rfl hgs hcn hn3 (by decide) ?_
  rw [lW_r]
  refine x_inv (as := [.ref 1424, .int (s (6 * c + 1)), .int (s (6 * c + 2))]) (rest := []) (kl_17 (j := 25) rfl) rfl rfl (Nat.le_of_ble_eq_true rfl) (Or.inl hn) (rcv_at (rw_md (w := cW (aUp w 1438 (oE o')) F' A' L') hn) (by decide) (by decide)) (Nat.le_trans (Nat.add_le_add_right (Nat.add_le_add_right hu _) _) (Nat.le_of_ble_eq_true rfl)) (Nat.le_trans (Nat.add_le_add_right (Nat.add_le_add_right hs _) _) (Nat.le_of_ble_eq_true rfl)) (r_kind (d := d + 30) (w := cW (aUp w 1438 (oE o')) F' A' L') hI.wf hn) (fun v9 w9 hq => ?_) (fun E w9 hx => hx.elim)
  obtain ⟨rfl, m', RA', RB', rfl, hm, hk, hA⟩ := hq
  rw [← lW_r]
  exact tl_i kt_17 hn hm ho (by rw [Nat.add_assoc]; exact Nat.add_le_add_left (Nat.le_of_ble_eq_true rfl) _) (by rw [Nat.add_assoc]; exact Nat.add_le_add_left (Nat.le_of_ble_eq_true rfl) _) (by omega) (by omega) (gs_ca hB hvc hv' hS hk hA) go
theorem k_18 (hG : Gs w c W) (hn : w.1 = N0) (hgs : g.1 300 = some (0, n, s)) (hcn : 6 * c + 5 < n) (hn3 : n ≤ 3072) (hri : HRi g) (htx : HTx g) (hu : uc ≤ 5000) (hs : us ≤ 130000) (go : GoT g d w c (uc + 5) (us + 30)) : LX g d W uc us 860 (loL c l5 l6 l7) [] := by
  obtain ⟨o, F, A, L, m, f, RA, RB, np, nm, nc, nt, ns, nh, v, en, b, rfl, hK, hvc, hR, hI, hB⟩ := hG
  have hv : v + 1 < 2 ^ 30 := by omega
  refine x_al (kl_18 (j := 0) rfl) rfl ?_
  refine x_scr 1 (kl_18 (j := 1) rfl) (kl_18 (j := 2) rfl) (kl_18 (j := 3) rfl) (kl_18 (j := 4) rfl) (kl_18 (j := 5) rfl) rfl hgs hcn hn3 (by decide) ?_
  refine x_scr 2 (kl_18 (j := 6) rfl) (kl_18 (j := 7) rfl) (kl_18 (j := 8) rfl) (kl_18 (j := 9) rfl) (kl_18 (j := 10) rfl) rfl hgs hcn hn3 (by decide) ?_
  refine x_b01 (kl_18 (j := 11) rfl) (kl_18 (j := 12) rfl) (kl_18 (j := 13) rfl) (kl_18 (j := 14) rfl) rfl ?_
  refine x_al (kl_18 (j := 15) rfl) rfl ?_
  refine x_inv (as := [.ref 0, .int (s (6 * c + 1)), .int (bI (decide (¬ (s (6 * c + 2)) = 0))), .ref 1438]) (rest := []) (kl_18 (j := 16) rfl) rfl rfl (Nat.le_of_ble_eq_true rfl) (Or.inl hn) trivial (Nat.le_trans (Nat.add_le_add_right hu _) (Nat.le_of_ble_eq_true rfl)) (Nat.le_trans (Nat.add_le_add_right hs _) (Nat.le_of_ble_eq_true rfl)) (l_number (d := d + 34) hK hR hI hn) (fun v9 w9 hq => ?_) (fun E w9 hx => hx.elim)
  obtain ⟨rfl, F', A', L', o', np', nm', nc', nt', ns', nh', v', rfl, hv', hS, ho⟩ := hq
  refine x_is (lo' := loL c (some (.int _)) l6 l7) (kl_18 (j := 17) rfl) (Nat.le_of_ble_eq_true rfl) rfl ?_
  refine x_al (kl_18 (j := 18) rfl) rfl ?_
  refine x_scr 1 (kl_18 (j := 19) rfl) (kl_18 (j := 20) rfl) (kl_18 (j := 21) rfl) (kl_18 (j := 22) rfl) (kl_18 (j := 23) rfl) rfl hgs hcn hn3 (by decide) ?_
  refine x_scr 2 (kl_18 (j := 24) rfl) (kl_18 (j := 25) rfl) (kl_18 (j := 26) rfl) (kl_18 (j := 27) rfl) (kl_18 (j := 28) rfl) rfl hgs hcn hn3 (by decide) ?_
  refine x_b01 (kl_18 (j := 29) rfl) (kl_18 (j := 30) rfl) (kl_18 (j := 31) rfl) (kl_18 (j := 32) rfl) rfl ?_
  rw [lW_r]
  refine x_inv (as := [.ref 1424, .int (s (6 * c + 1)), .int (bI (decide (¬ (s (6 * c + 2)) = 0)))]) (rest := []) (kl_18 (j := 33) rfl) rfl rfl (Nat.le_of_ble_eq_true rfl) (Or.inl hn) (rcv_at (rw_md (w := cW (aUp w 1438 (oE o')) F' A' L') hn) (by decide) (by decide)) (Nat.le_trans (Nat.add_le_add_right (Nat.add_le_add_right hu _) _) (Nat.le_of_ble_eq_true rfl)) (Nat.le_trans (Nat.add_le_add_right (Nat.add_le_add_right hs _) _) (Nat.le_of_ble_eq_true rfl)) (r_number (d := d + 29) (w := cW (aUp w 1438 (oE o')) F' A' L') hI.wf hn) (fun v9 w9 hq => ?_) (fun E w9 hx => hx.elim)
  obtain ⟨rfl, m', RA', RB', rfl, hm, hk, hA⟩ := hq
  rw [← lW_r]
  exact tl_i kt_18 hn hm ho (by rw [Nat.add_assoc]; exact Nat.add_le_add_left (Nat.le_of_ble_eq_true rfl) _) (by rw [Nat.add_assoc]; exact Nat.add_le_add_left (Nat.le_of_ble_eq_true rfl) _) (by omega) (by omega) (gs_ca hB hvc hv' hS hk hA) go
theorem k_19 (hG : Gs w c W) (hn : w.1 = N0) (hgs : g.1 300 = some (0, n, s)) (hcn : 6 * c + 5 < n) (hn3 : n ≤ 3072) (hri : HRi g) (htx : HTx g) (hu : uc ≤ 5000) (hs : us ≤ 130000) (go : GoT g d w c (uc + 5) (us + 30)) : LX g d W uc us 913 (loL c l5 l6 l7) [] := by
  obtain ⟨o, F, A, L, m, f, RA, RB, np, nm, nc, nt, ns, nh, v, en, b, rfl, hK, hvc, hR, hI, hB⟩ := hG
  have hv : v + 1 < 2 ^ 30 := by omega
  refine x_al (kl_19 (j := 0) rfl) rfl ?_
  refine x_scr 1 (kl_19 (j := 1) rfl) (kl_19 (j := 2) rfl) (kl_19 (j := 3) rfl) (kl_19 (j := 4) rfl) (kl_19 (j := 5) rfl) rfl hgs hcn hn3 (by decide) ?_
  refine x_al (kl_19 (j := 6) rfl) rfl ?_
  refine x_inv (as := [.ref 0, .int (s (6 * c + 1)), .ref 1438]) (rest := []) (kl_19 (j := 7) rfl) rfl rfl (Nat.le_of_ble_eq_true rfl) (Or.inl hn) trivial (Nat.le_trans (Nat.add_le_add_right hu _) (Nat.le_of_ble_eq_true rfl)) (Nat.le_trans (Nat.add_le_add_right hs _) (Nat.le_of_ble_eq_true rfl)) (l_drawers (row := RB 1432) (d := d + 33) hK hR hI hn) (fun v9 w9 hq => ?_) (fun E w9 hx => hx.elim)
  obtain ⟨rfl, F', A', L', o', np', nm', nc', nt', ns', nh', v', rfl, hv', hS, ho⟩ := hq
  refine x_is (lo' := loL c (some (.int _)) l6 l7) (kl_19 (j := 8) rfl) (Nat.le_of_ble_eq_true rfl) rfl ?_
  refine x_al (kl_19 (j := 9) rfl) rfl ?_
  refine x_scr 1 (kl_19 (j := 10) rfl) (kl_19 (j := 11) rfl) (kl_19 (j := 12) rfl) (kl_19 (j := 13) rfl) (kl_19 (j := 14) rfl) rfl hgs hcn hn3 (by decide) ?_
  rw [lW_r]
  refine x_inv (as := [.ref 1424, .int (s (6 * c + 1))]) (rest := []) (kl_19 (j := 15) rfl) rfl rfl (Nat.le_of_ble_eq_true rfl) (Or.inl hn) (rcv_at (rw_md (w := cW (aUp w 1438 (oE o')) F' A' L') hn) (by decide) (by decide)) (Nat.le_trans (Nat.add_le_add_right (Nat.add_le_add_right hu _) _) (Nat.le_of_ble_eq_true rfl)) (Nat.le_trans (Nat.add_le_add_right (Nat.add_le_add_right hs _) _) (Nat.le_of_ble_eq_true rfl)) (r_drawers (d := d + 28) (w := cW (aUp w 1438 (oE o')) F' A' L') hI.wf hI.h4 hn) (fun v9 w9 hq => ?_) (fun E w9 hx => hx.elim)
  obtain ⟨rfl, m', RA', RB', rfl, hm, hk, hA⟩ := hq
  rw [← lW_r]
  exact tl_i kt_19 hn hm ho (by rw [Nat.add_assoc]; exact Nat.add_le_add_left (Nat.le_of_ble_eq_true rfl) _) (by rw [Nat.add_assoc]; exact Nat.add_le_add_left (Nat.le_of_ble_eq_true rfl) _) (by omega) (by omega) (gs_ca hB hvc hv' hS hk hA) go
theorem k_20 (hG : Gs w c W) (hn : w.1 = N0) (hgs : g.1 300 = some (0, n, s)) (hcn : 6 * c + 5 < n) (hn3 : n ≤ 3072) (hri : HRi g) (htx : HTx g) (hu : uc ≤ 5000) (hs : us ≤ 130000) (go : GoT g d w c (uc + 5) (us + 30)) : LX g d W uc us 948 (loL c l5 l6 l7) [] := by
  obtain ⟨o, F, A, L, m, f, RA, RB, np, nm, nc, nt, ns, nh, v, en, b, rfl, hK, hvc, hR, hI, hB⟩ := hG
  have hv : v + 1 < 2 ^ 30 := by omega
  refine x_al (kl_20 (j := 0) rfl) rfl ?_
  refine x_scr 1 (kl_20 (j := 1) rfl) (kl_20 (j := 2) rfl) (kl_20 (j := 3) rfl) (kl_20 (j := 4) rfl) (kl_20 (j := 5) rfl) rfl hgs hcn hn3 (by decide) ?_
  refine x_scr 2 (kl_20 (j := 6) rfl) (kl_20 (j := 7) rfl) (kl_20 (j := 8) rfl) (kl_20 (j := 9) rfl) (kl_20 (j := 10) rfl) rfl hgs hcn hn3 (by decide) ?_
  refine x_al (kl_20 (j := 11) rfl) rfl ?_
  refine x_inv (as := [.ref 0, .int (s (6 * c + 1)), .int (s (6 * c + 2)), .ref 1438]) (rest := []) (kl_20 (j := 12) rfl) rfl rfl (Nat.le_of_ble_eq_true rfl) (Or.inl hn) trivial (Nat.le_trans (Nat.add_le_add_right hu _) (Nat.le_of_ble_eq_true rfl)) (Nat.le_trans (Nat.add_le_add_right hs _) (Nat.le_of_ble_eq_true rfl)) (l_like (d := d + 32) hK hR hI hn) (fun v9 w9 hq => ?_) (fun E w9 hx => hx.elim)
  obtain ⟨rfl, F', A', L', o', np', nm', nc', nt', ns', nh', v', rfl, hv', hS, ho⟩ := hq
  refine x_is (lo' := loL c (some (.int _)) l6 l7) (kl_20 (j := 13) rfl) (Nat.le_of_ble_eq_true rfl) rfl ?_
  refine x_al (kl_20 (j := 14) rfl) rfl ?_
  refine x_scr 1 (kl_20 (j := 15) rfl) (kl_20 (j := 16) rfl) (kl_20 (j := 17) rfl) (kl_20 (j := 18) rfl) (kl_20 (j := 19) rfl) rfl hgs hcn hn3 (by decide) ?_
  refine x_scr 2 (kl_20 (j := 20) rfl) (kl_20 (j := 21) rfl) (kl_20 (j := 22) rfl) (kl_20 (j := 23) rfl) (kl_20 (j := 24) rfl) rfl hgs hcn hn3 (by decide) ?_
  rw [lW_r]
  refine x_inv (as := [.ref 1424, .int (s (6 * c + 1)), .int (s (6 * c + 2))]) (rest := []) (kl_20 (j := 25) rfl) rfl rfl (Nat.le_of_ble_eq_true rfl) (Or.inl hn) (rcv_at (rw_md (w := cW (aUp w 1438 (oE o')) F' A' L') hn) (by decide) (by decide)) (Nat.le_trans (Nat.add_le_add_right (Nat.add_le_add_right hu _) _) (Nat.le_of_ble_eq_true rfl)) (Nat.le_trans (Nat.add_le_add_right (Nat.add_le_add_right hs _) _) (Nat.le_of_ble_eq_true rfl)) (r_like (d := d + 28) (w := cW (aUp w 1438 (oE o')) F' A' L') hI.wf hI.h4 hn) (fun v9 w9 hq => ?_) (fun E w9 hx => hx.elim)
  obtain ⟨rfl, m', RA', RB', rfl, hm, hk, hA⟩ := hq
  rw [← lW_r]
  exact tl_i kt_20 hn hm ho (by rw [Nat.add_assoc]; exact Nat.add_le_add_left (Nat.le_of_ble_eq_true rfl) _) (by rw [Nat.add_assoc]; exact Nat.add_le_add_left (Nat.le_of_ble_eq_true rfl) _) (by omega) (by omega) (gs_ca hB hvc hv' hS hk hA) go
end CASES
