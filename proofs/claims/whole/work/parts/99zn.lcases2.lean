/-! more cases of the law; cw_ -/
section CASES
variable {g : aG} {d : Nat} {w W : aW} {c n uc us : Nat} {s : Nat → Int32} {l5 l6 l7 : Option Value}
theorem k_21 (hG : Gs w c W) (hn : w.1 = N0) (hgs : g.1 300 = some (0, n, s)) (hcn : 6 * c + 5 < n) (hn3 : n ≤ 3072) (hri : HRi g) (htx : HTx g) (hu : uc ≤ 5000) (hs : us ≤ 130000) (go : GoT g d w c (uc + 5) (us + 30)) : LX g d W uc us 993 (loL c l5 l6 l7) [] := by
  obtain ⟨o, F, A, L, m, f, RA, RB, np, nm, nc, nt, ns, nh, v, en, b, rfl, hK, hvc, hR, hI, hB⟩ := hG
  have hv : v + 1 < 2 ^ 30 := by omega
  have hB2 := hB
  obtain ⟨⟨b1, b2, b3, b4⟩, b5, b6, b7⟩ := hB2
  have hl := l_rules (g := g) (d := d) (w := w) (L := L) (day := s (6 * c + 1)) (o := o) (m := m) (RA := RA) (RB := RB) htx b4 b1 b3 hK hR hI hn
  have hr := fun (o' : Nat → Int64) (F' A' : Nat → Nat → Int32) (L' : Nat → Int64) => r_rules (g := g) (d := d + 8) (w := cW (aUp w 1438 (oE o')) F' A' L') (m := m) (f := f) (A := RA) (B := RB) (day := s (6 * c + 1)) htx rfl b2 b3 hI.1.2.2.2.1.1 hI.t10 hn
  generalize pText (RA 1427) en 0 = P at hl hr
  refine x_al (kl_21 (j := 0) rfl) rfl ?_
  refine x_scr 1 (kl_21 (j := 1) rfl) (kl_21 (j := 2) rfl) (kl_21 (j := 3) rfl) (kl_21 (j := 4) rfl) (kl_21 (j := 5) rfl) rfl hgs hcn hn3 (by decide) ?_
  refine x_al (kl_21 (j := 6) rfl) rfl ?_
  refine x_inv (as := [.ref 0, .int (s (6 * c + 1)), .ref 1438]) (rest := []) (kl_21 (j := 7) rfl) rfl rfl (Nat.le_of_ble_eq_true rfl) (Or.inl hn) trivial (Nat.le_trans (Nat.add_le_add_right hu _) (Nat.le_of_ble_eq_true rfl)) (Nat.le_trans (Nat.add_le_add_right hs _) (Nat.le_of_ble_eq_true rfl)) (hl) (fun v9 w9 hq => ?_) (fun E w9 hx => hx.elim)
  obtain ⟨F', A', L', o', rfl, g1, g2, hq⟩ := hq
  rcases hq with ⟨p0, p1, p2, rfl, p3, p4, p5⟩ | ⟨q1, q2, ⟨r1, rfl, r3⟩ | ⟨r0, r1, rfl, r3⟩ | ⟨r0, r1, r2, rfl, r3⟩⟩
  · skip
    refine x_is (lo' := loL c (some (.int 0)) l6 l7) (kl_21 (j := 8) rfl) (Nat.le_of_ble_eq_true rfl) rfl ?_
    refine x_al (kl_21 (j := 9) rfl) rfl ?_
    refine x_scr 1 (kl_21 (j := 10) rfl) (kl_21 (j := 11) rfl) (kl_21 (j := 12) rfl) (kl_21 (j := 13) rfl) (kl_21 (j := 14) rfl) rfl hgs hcn hn3 (by decide) ?_
    rw [lW_r]
    refine x_inv (as := [.ref 1424, .int (s (6 * c + 1))]) (rest := []) (kl_21 (j := 15) rfl) rfl rfl (Nat.le_of_ble_eq_true rfl) (Or.inl hn) (rcv_at (rw_md (w := cW (aUp w 1438 (oE o')) F' A' L') hn) (by decide) (by decide)) (Nat.le_trans (Nat.add_le_add_right (Nat.add_le_add_right hu _) _) (Nat.le_of_ble_eq_true rfl)) (Nat.le_trans (Nat.add_le_add_right (Nat.add_le_add_right hs _) _) (Nat.le_of_ble_eq_true rfl)) (hr o' F' A' L') (fun v9 w9 hq => ?_) (fun E w9 hx => hx.elim)
    obtain ⟨m', f', rfl, m3, m5, hc⟩ := hq
    rw [← lW_r]
    rcases hc with ⟨s0, rfl, hm, s3, rfl⟩ | ⟨s0, fx, hfx, ⟨s1, rfl, hm, s3, rfl⟩ | ⟨s1, s2, rfl, hm, s3, rfl⟩ | ⟨s1, s2, rfl, hm, s3, s4, s5, s6, rfl⟩⟩
    · exact absurd p0 s0
    · exact absurd (p1.symm.trans s1) (by decide)
    · exact absurd s2 p2
    · obtain ⟨t1, t2, t3⟩ := p5 fx hfx s5 s6
      exact tl_i kt_21 hn hm (fun _ => p3) (by rw [Nat.add_assoc]; exact Nat.add_le_add_left (Nat.le_of_ble_eq_true rfl) _) (by rw [Nat.add_assoc]; exact Nat.add_le_add_left (Nat.le_of_ble_eq_true rfl) _) (by omega) (by omega) ⟨o', F', A', L', m', _, RA, RB, np, nm, nc, nt + 1, ns, nh, v, 0, b, rfl, t3, by omega, t1, t2, hB.read g1 (p4.trans s3.symm) m3 m5 g2.1 (fun q hq => g2.2.2 q hq) rfl⟩ go
  · skip
    refine x_is (lo' := loL c (some (.int 1)) l6 l7) (kl_21 (j := 8) rfl) (Nat.le_of_ble_eq_true rfl) rfl ?_
    refine x_al (kl_21 (j := 9) rfl) rfl ?_
    refine x_scr 1 (kl_21 (j := 10) rfl) (kl_21 (j := 11) rfl) (kl_21 (j := 12) rfl) (kl_21 (j := 13) rfl) (kl_21 (j := 14) rfl) rfl hgs hcn hn3 (by decide) ?_
    rw [lW_r]
    refine x_inv (as := [.ref 1424, .int (s (6 * c + 1))]) (rest := []) (kl_21 (j := 15) rfl) rfl rfl (Nat.le_of_ble_eq_true rfl) (Or.inl hn) (rcv_at (rw_md (w := cW (aUp w 1438 (oE o')) F' A' L') hn) (by decide) (by decide)) (Nat.le_trans (Nat.add_le_add_right (Nat.add_le_add_right hu _) _) (Nat.le_of_ble_eq_true rfl)) (Nat.le_trans (Nat.add_le_add_right (Nat.add_le_add_right hs _) _) (Nat.le_of_ble_eq_true rfl)) (hr o' F' A' L') (fun v9 w9 hq => ?_) (fun E w9 hx => hx.elim)
    obtain ⟨m', f', rfl, m3, m5, hc⟩ := hq
    rw [← lW_r]
    rcases hc with ⟨s0, rfl, hm, s3, rfl⟩ | ⟨s0, fx, hfx, ⟨s1, rfl, hm, s3, rfl⟩ | ⟨s1, s2, rfl, hm, s3, rfl⟩ | ⟨s1, s2, rfl, hm, s3, s4, s5, s6, rfl⟩⟩
    · exact tl_i kt_21 hn hm (fun h => absurd h (by decide)) (by rw [Nat.add_assoc]; exact Nat.add_le_add_left (Nat.le_of_ble_eq_true rfl) _) (by rw [Nat.add_assoc]; exact Nat.add_le_add_left (Nat.le_of_ble_eq_true rfl) _) (by omega) (by omega) ⟨o', F', A', L', m', _, RA, RB, np, nm, nc, nt, ns, nh, v, 0, b, rfl, q2, by omega, q1, hI, hB.read g1 (r3.trans (b5.trans s3.symm)) m3 m5 g2.1 (fun q hq => g2.2.2 q hq) rfl⟩ go
    · exact absurd s0 r1
    · exact absurd s0 r1
    · exact absurd s0 r1
  · skip
    refine x_is (lo' := loL c (some (.int 1)) l6 l7) (kl_21 (j := 8) rfl) (Nat.le_of_ble_eq_true rfl) rfl ?_
    refine x_al (kl_21 (j := 9) rfl) rfl ?_
    refine x_scr 1 (kl_21 (j := 10) rfl) (kl_21 (j := 11) rfl) (kl_21 (j := 12) rfl) (kl_21 (j := 13) rfl) (kl_21 (j := 14) rfl) rfl hgs hcn hn3 (by decide) ?_
    rw [lW_r]
    refine x_inv (as := [.ref 1424, .int (s (6 * c + 1))]) (rest := []) (kl_21 (j := 15) rfl) rfl rfl (Nat.le_of_ble_eq_true rfl) (Or.inl hn) (rcv_at (rw_md (w := cW (aUp w 1438 (oE o')) F' A' L') hn) (by decide) (by decide)) (Nat.le_trans (Nat.add_le_add_right (Nat.add_le_add_right hu _) _) (Nat.le_of_ble_eq_true rfl)) (Nat.le_trans (Nat.add_le_add_right (Nat.add_le_add_right hs _) _) (Nat.le_of_ble_eq_true rfl)) (hr o' F' A' L') (fun v9 w9 hq => ?_) (fun E w9 hx => hx.elim)
    obtain ⟨m', f', rfl, m3, m5, hc⟩ := hq
    rw [← lW_r]
    rcases hc with ⟨s0, rfl, hm, s3, rfl⟩ | ⟨s0, fx, hfx, ⟨s1, rfl, hm, s3, rfl⟩ | ⟨s1, s2, rfl, hm, s3, rfl⟩ | ⟨s1, s2, rfl, hm, s3, s4, s5, s6, rfl⟩⟩
    · exact absurd r0 s0
    · exact tl_i kt_21 hn hm (fun h => absurd h (by decide)) (by rw [Nat.add_assoc]; exact Nat.add_le_add_left (Nat.le_of_ble_eq_true rfl) _) (by rw [Nat.add_assoc]; exact Nat.add_le_add_left (Nat.le_of_ble_eq_true rfl) _) (by omega) (by omega) ⟨o', F', A', L', m', _, RA, RB, np, nm, nc, nt, ns, nh, v, 0, b, rfl, (q2.cong ⟨hfx 1 (by omega), fun p hp i h1 h2 => hfx i (by have := hI.p60; omega), fun k hk i h1 h2 => hfx i (by have := hI.m20; omega)⟩ hI.wp hI.p60 hI.m20 (Nat.le_refl _) (Nat.le_refl _)), by omega, (RS_b hI (fun i hi => hfx i (by omega)) q1), (IV_b hI (fun i hi => hfx i (by omega))), hB.read g1 (r3.trans s3.symm) m3 m5 g2.1 (fun q hq => g2.2.2 q hq) rfl⟩ go
    · exact absurd (s1.symm.trans r1) (by decide)
    · exact absurd (s1.symm.trans r1) (by decide)
  · skip
    refine x_is (lo' := loL c (some (.int 2)) l6 l7) (kl_21 (j := 8) rfl) (Nat.le_of_ble_eq_true rfl) rfl ?_
    refine x_al (kl_21 (j := 9) rfl) rfl ?_
    refine x_scr 1 (kl_21 (j := 10) rfl) (kl_21 (j := 11) rfl) (kl_21 (j := 12) rfl) (kl_21 (j := 13) rfl) (kl_21 (j := 14) rfl) rfl hgs hcn hn3 (by decide) ?_
    rw [lW_r]
    refine x_inv (as := [.ref 1424, .int (s (6 * c + 1))]) (rest := []) (kl_21 (j := 15) rfl) rfl rfl (Nat.le_of_ble_eq_true rfl) (Or.inl hn) (rcv_at (rw_md (w := cW (aUp w 1438 (oE o')) F' A' L') hn) (by decide) (by decide)) (Nat.le_trans (Nat.add_le_add_right (Nat.add_le_add_right hu _) _) (Nat.le_of_ble_eq_true rfl)) (Nat.le_trans (Nat.add_le_add_right (Nat.add_le_add_right hs _) _) (Nat.le_of_ble_eq_true rfl)) (hr o' F' A' L') (fun v9 w9 hq => ?_) (fun E w9 hx => hx.elim)
    obtain ⟨m', f', rfl, m3, m5, hc⟩ := hq
    rw [← lW_r]
    rcases hc with ⟨s0, rfl, hm, s3, rfl⟩ | ⟨s0, fx, hfx, ⟨s1, rfl, hm, s3, rfl⟩ | ⟨s1, s2, rfl, hm, s3, rfl⟩ | ⟨s1, s2, rfl, hm, s3, s4, s5, s6, rfl⟩⟩
    · exact absurd r0 s0
    · exact absurd (r1.symm.trans s1) (by decide)
    · exact tl_i kt_21 hn hm (fun h => absurd h (by decide)) (by rw [Nat.add_assoc]; exact Nat.add_le_add_left (Nat.le_of_ble_eq_true rfl) _) (by rw [Nat.add_assoc]; exact Nat.add_le_add_left (Nat.le_of_ble_eq_true rfl) _) (by omega) (by omega) ⟨o', F', A', L', m', _, RA, RB, np, nm, nc, nt, ns, nh, v, 0, b, rfl, (q2.cong ⟨hfx 1 (by omega), fun p hp i h1 h2 => hfx i (by have := hI.p60; omega), fun k hk i h1 h2 => hfx i (by have := hI.m20; omega)⟩ hI.wp hI.p60 hI.m20 (Nat.le_refl _) (Nat.le_refl _)), by omega, (RS_b hI (fun i hi => hfx i (by omega)) q1), (IV_b hI (fun i hi => hfx i (by omega))), hB.read g1 (r3.trans s3.symm) m3 m5 g2.1 (fun q hq => g2.2.2 q hq) rfl⟩ go
    · exact absurd r2 s2
theorem k_22 (hG : Gs w c W) (hn : w.1 = N0) (hgs : g.1 300 = some (0, n, s)) (hcn : 6 * c + 5 < n) (hn3 : n ≤ 3072) (hri : HRi g) (htx : HTx g) (hu : uc ≤ 5000) (hs : us ≤ 130000) (go : GoT g d w c (uc + 5) (us + 30)) : LX g d W uc us 1028 (loL c l5 l6 l7) [] := by
  obtain ⟨o, F, A, L, m, f, RA, RB, np, nm, nc, nt, ns, nh, v, en, b, rfl, hK, hvc, hR, hI, hB⟩ := hG
  have hv : v + 1 < 2 ^ 30 := by omega
  refine x_al (kl_22 (j := 0) rfl) rfl ?_
  refine x_scr 1 (kl_22 (j := 1) rfl) (kl_22 (j := 2) rfl) (kl_22 (j := 3) rfl) (kl_22 (j := 4) rfl) (kl_22 (j := 5) rfl) rfl hgs hcn hn3 (by decide) ?_
  refine x_scr 2 (kl_22 (j := 6) rfl) (kl_22 (j := 7) rfl) (kl_22 (j := 8) rfl) (kl_22 (j := 9) rfl) (kl_22 (j := 10) rfl) rfl hgs hcn hn3 (by decide) ?_
  refine x_scr 3 (kl_22 (j := 11) rfl) (kl_22 (j := 12) rfl) (kl_22 (j := 13) rfl) (kl_22 (j := 14) rfl) (kl_22 (j := 15) rfl) rfl hgs hcn hn3 (by decide) ?_
  refine x_al (kl_22 (j := 16) rfl) rfl ?_
  refine x_inv (as := [.ref 0, .int (s (6 * c + 1)), .int (s (6 * c + 2)), .int (s (6 * c + 3)), .ref 1438]) (rest := []) (kl_22 (j := 17) rfl) rfl rfl (Nat.le_of_ble_eq_true rfl) (Or.inl hn) trivial (Nat.le_trans (Nat.add_le_add_right hu _) (Nat.le_of_ble_eq_true rfl)) (Nat.le_trans (Nat.add_le_add_right hs _) (Nat.le_of_ble_eq_true rfl)) (l_verdict (d := d + 26) hK hR hI hn) (fun v9 w9 hq => ?_) (fun E w9 hx => hx.elim)
  obtain ⟨rfl, F', A', L', o', np', nm', nc', nt', ns', nh', v', rfl, hv', hS, ho⟩ := hq
  refine x_is (lo' := loL c (some (.int _)) l6 l7) (kl_22 (j := 18) rfl) (Nat.le_of_ble_eq_true rfl) rfl ?_
  refine x_al (kl_22 (j := 19) rfl) rfl ?_
  refine x_scr 1 (kl_22 (j := 20) rfl) (kl_22 (j := 21) rfl) (kl_22 (j := 22) rfl) (kl_22 (j := 23) rfl) (kl_22 (j := 24) rfl) rfl hgs hcn hn3 (by decide) ?_
  refine x_scr 2 (kl_22 (j := 25) rfl) (kl_22 (j := 26) rfl) (kl_22 (j := 27) rfl) (kl_22 (j := 28) rfl) (kl_22 (j := 29) rfl) rfl hgs hcn hn3 (by decide) ?_
  refine x_scr 3 (kl_22 (j := 30) rfl) (kl_22 (j := 31) rfl) (kl_22 (j := 32) rfl) (kl_22 (j := 33) rfl) (kl_22 (j := 34) rfl) rfl hgs hcn hn3 (by decide) ?_
  rw [lW_r]
  refine x_inv (as := [.ref 1424, .int (s (6 * c + 1)), .int (s (6 * c + 2)), .int (s (6 * c + 3))]) (rest := []) (kl_22 (j := 35) rfl) rfl rfl (Nat.le_of_ble_eq_true rfl) (Or.inl hn) (rcv_at (rw_md (w := cW (aUp w 1438 (oE o')) F' A' L') hn) (by decide) (by decide)) (Nat.le_trans (Nat.add_le_add_right (Nat.add_le_add_right hu _) _) (Nat.le_of_ble_eq_true rfl)) (Nat.le_trans (Nat.add_le_add_right (Nat.add_le_add_right hs _) _) (Nat.le_of_ble_eq_true rfl)) (r_verdict (d := d + 26) (w := cW (aUp w 1438 (oE o')) F' A' L') (hR.wt hI) hI.wp hI.1.2.1.1 hI.m20 hI.1.1.1 hI.p60 hn) (fun v9 w9 hq => ?_) (fun E w9 hx => hx.elim)
  obtain ⟨rfl, m', RA', RB', rfl, hm, hk, hA⟩ := hq
  rw [← lW_r]
  exact tl_i kt_22 hn hm ho (by rw [Nat.add_assoc]; exact Nat.add_le_add_left (Nat.le_of_ble_eq_true rfl) _) (by rw [Nat.add_assoc]; exact Nat.add_le_add_left (Nat.le_of_ble_eq_true rfl) _) (by omega) (by omega) (gs_ca hB hvc hv' hS hk hA) go
theorem k_23 (hG : Gs w c W) (hn : w.1 = N0) (hgs : g.1 300 = some (0, n, s)) (hcn : 6 * c + 5 < n) (hn3 : n ≤ 3072) (hri : HRi g) (htx : HTx g) (hu : uc ≤ 5000) (hs : us ≤ 130000) (go : GoT g d w c (uc + 5) (us + 30)) : LX g d W uc us 1083 (loL c l5 l6 l7) [] := by
  obtain ⟨o, F, A, L, m, f, RA, RB, np, nm, nc, nt, ns, nh, v, en, b, rfl, hK, hvc, hR, hI, hB⟩ := hG
  have hv : v + 1 < 2 ^ 30 := by omega
  refine x_al (kl_23 (j := 0) rfl) rfl ?_
  refine x_scr 1 (kl_23 (j := 1) rfl) (kl_23 (j := 2) rfl) (kl_23 (j := 3) rfl) (kl_23 (j := 4) rfl) (kl_23 (j := 5) rfl) rfl hgs hcn hn3 (by decide) ?_
  refine x_scr 2 (kl_23 (j := 6) rfl) (kl_23 (j := 7) rfl) (kl_23 (j := 8) rfl) (kl_23 (j := 9) rfl) (kl_23 (j := 10) rfl) rfl hgs hcn hn3 (by decide) ?_
  refine x_scr 3 (kl_23 (j := 11) rfl) (kl_23 (j := 12) rfl) (kl_23 (j := 13) rfl) (kl_23 (j := 14) rfl) (kl_23 (j := 15) rfl) rfl hgs hcn hn3 (by decide) ?_
  refine x_al (kl_23 (j := 16) rfl) rfl ?_
  refine x_inv (as := [.ref 0, .int (s (6 * c + 1)), .int (s (6 * c + 2)), .int (s (6 * c + 3)), .ref 1438]) (rest := []) (kl_23 (j := 17) rfl) rfl rfl (Nat.le_of_ble_eq_true rfl) (Or.inl hn) trivial (Nat.le_trans (Nat.add_le_add_right hu _) (Nat.le_of_ble_eq_true rfl)) (Nat.le_trans (Nat.add_le_add_right hs _) (Nat.le_of_ble_eq_true rfl)) (l_why (d := d + 26) hK hR hI hn) (fun v9 w9 hq => ?_) (fun E w9 hx => hx.elim)
  obtain ⟨rfl, F', A', L', o', np', nm', nc', nt', ns', nh', v', rfl, hv', hS, ho⟩ := hq
  refine x_is (lo' := loL c (some (.int _)) l6 l7) (kl_23 (j := 18) rfl) (Nat.le_of_ble_eq_true rfl) rfl ?_
  refine x_al (kl_23 (j := 19) rfl) rfl ?_
  refine x_scr 1 (kl_23 (j := 20) rfl) (kl_23 (j := 21) rfl) (kl_23 (j := 22) rfl) (kl_23 (j := 23) rfl) (kl_23 (j := 24) rfl) rfl hgs hcn hn3 (by decide) ?_
  refine x_scr 2 (kl_23 (j := 25) rfl) (kl_23 (j := 26) rfl) (kl_23 (j := 27) rfl) (kl_23 (j := 28) rfl) (kl_23 (j := 29) rfl) rfl hgs hcn hn3 (by decide) ?_
  refine x_scr 3 (kl_23 (j := 30) rfl) (kl_23 (j := 31) rfl) (kl_23 (j := 32) rfl) (kl_23 (j := 33) rfl) (kl_23 (j := 34) rfl) rfl hgs hcn hn3 (by decide) ?_
  rw [lW_r]
  refine x_inv (as := [.ref 1424, .int (s (6 * c + 1)), .int (s (6 * c + 2)), .int (s (6 * c + 3))]) (rest := []) (kl_23 (j := 35) rfl) rfl rfl (Nat.le_of_ble_eq_true rfl) (Or.inl hn) (rcv_at (rw_md (w := cW (aUp w 1438 (oE o')) F' A' L') hn) (by decide) (by decide)) (Nat.le_trans (Nat.add_le_add_right (Nat.add_le_add_right hu _) _) (Nat.le_of_ble_eq_true rfl)) (Nat.le_trans (Nat.add_le_add_right (Nat.add_le_add_right hs _) _) (Nat.le_of_ble_eq_true rfl)) (r_why (d := d + 26) (w := cW (aUp w 1438 (oE o')) F' A' L') (hR.wt hI) hI.wp hI.1.2.1.1 hI.m20 hI.1.1.1 hI.p60 hn) (fun v9 w9 hq => ?_) (fun E w9 hx => hx.elim)
  obtain ⟨rfl, m', RA', RB', rfl, hm, hk, hA⟩ := hq
  rw [← lW_r]
  exact tl_i kt_23 hn hm ho (by rw [Nat.add_assoc]; exact Nat.add_le_add_left (Nat.le_of_ble_eq_true rfl) _) (by rw [Nat.add_assoc]; exact Nat.add_le_add_left (Nat.le_of_ble_eq_true rfl) _) (by omega) (by omega) (gs_ca hB hvc hv' hS hk hA) go
theorem k_24 (hG : Gs w c W) (hn : w.1 = N0) (hgs : g.1 300 = some (0, n, s)) (hcn : 6 * c + 5 < n) (hn3 : n ≤ 3072) (hri : HRi g) (htx : HTx g) (hu : uc ≤ 5000) (hs : us ≤ 130000) (go : GoT g d w c (uc + 5) (us + 30)) : LX g d W uc us 1138 (loL c l5 l6 l7) [] := by
  obtain ⟨o, F, A, L, m, f, RA, RB, np, nm, nc, nt, ns, nh, v, en, b, rfl, hK, hvc, hR, hI, hB⟩ := hG
  have hv : v + 1 < 2 ^ 30 := by omega
  refine x_al (kl_24 (j := 0) rfl) rfl ?_
  refine x_scr 1 (kl_24 (j := 1) rfl) (kl_24 (j := 2) rfl) (kl_24 (j := 3) rfl) (kl_24 (j := 4) rfl) (kl_24 (j := 5) rfl) rfl hgs hcn hn3 (by decide) ?_
  refine x_scr 2 (kl_24 (j := 6) rfl) (kl_24 (j := 7) rfl) (kl_24 (j := 8) rfl) (kl_24 (j := 9) rfl) (kl_24 (j := 10) rfl) rfl hgs hcn hn3 (by decide) ?_
  refine x_scr 3 (kl_24 (j := 11) rfl) (kl_24 (j := 12) rfl) (kl_24 (j := 13) rfl) (kl_24 (j := 14) rfl) (kl_24 (j := 15) rfl) rfl hgs hcn hn3 (by decide) ?_
  refine x_scr 4 (kl_24 (j := 16) rfl) (kl_24 (j := 17) rfl) (kl_24 (j := 18) rfl) (kl_24 (j := 19) rfl) (kl_24 (j := 20) rfl) rfl hgs hcn hn3 (by decide) ?_
  refine x_scr 5 (kl_24 (j := 21) rfl) (kl_24 (j := 22) rfl) (kl_24 (j := 23) rfl) (kl_24 (j := 24) rfl) (kl_24 (j := 25) rfl) rfl hgs hcn hn3 (by decide) ?_
  refine x_al (kl_24 (j := 26) rfl) rfl ?_
  refine x_inv (as := [.ref 0, .int (s (6 * c + 1)), .int (s (6 * c + 2)), .int (s (6 * c + 3)), .int (s (6 * c + 4)), .int (s (6 * c + 5)), .ref 1438]) (rest := []) (kl_24 (j := 27) rfl) rfl rfl (Nat.le_of_ble_eq_true rfl) (Or.inl hn) trivial (Nat.le_trans (Nat.add_le_add_right hu _) (Nat.le_of_ble_eq_true rfl)) (Nat.le_trans (Nat.add_le_add_right hs _) (Nat.le_of_ble_eq_true rfl)) (l_say (d := d + 35) hK hR hI hn) (fun v9 w9 hq => ?_) (fun E w9 hx => hx.elim)
  obtain ⟨rfl, F', A', L', o', np', nm', nc', nt', ns', nh', v', rfl, hv', hS, ho⟩ := hq
  refine x_is (lo' := loL c (some (.int _)) l6 l7) (kl_24 (j := 28) rfl) (Nat.le_of_ble_eq_true rfl) rfl ?_
  refine x_al (kl_24 (j := 29) rfl) rfl ?_
  refine x_scr 1 (kl_24 (j := 30) rfl) (kl_24 (j := 31) rfl) (kl_24 (j := 32) rfl) (kl_24 (j := 33) rfl) (kl_24 (j := 34) rfl) rfl hgs hcn hn3 (by decide) ?_
  refine x_scr 2 (kl_24 (j := 35) rfl) (kl_24 (j := 36) rfl) (kl_24 (j := 37) rfl) (kl_24 (j := 38) rfl) (kl_24 (j := 39) rfl) rfl hgs hcn hn3 (by decide) ?_
  refine x_scr 3 (kl_24 (j := 40) rfl) (kl_24 (j := 41) rfl) (kl_24 (j := 42) rfl) (kl_24 (j := 43) rfl) (kl_24 (j := 44) rfl) rfl hgs hcn hn3 (by decide) ?_
  refine x_scr 4 (kl_24 (j := 45) rfl) (kl_24 (j := 46) rfl) (kl_24 (j := 47) rfl) (kl_24 (j := 48) rfl) (kl_24 (j := 49) rfl) rfl hgs hcn hn3 (by decide) ?_
  refine x_scr 5 (kl_24 (j := 50) rfl) (kl_24 (j := 51) rfl) (kl_24 (j := 52) rfl) (kl_24 (j := 53) rfl) (kl_24 (j := 54) rfl) rfl hgs hcn hn3 (by decide) ?_
  rw [lW_r]
  refine x_inv (as := [.ref 1424, .int (s (6 * c + 1)), .int (s (6 * c + 2)), .int (s (6 * c + 3)), .int (s (6 * c + 4)), .int (s (6 * c + 5))]) (rest := []) (kl_24 (j := 55) rfl) rfl rfl (Nat.le_of_ble_eq_true rfl) (Or.inl hn) (rcv_at (rw_md (w := cW (aUp w 1438 (oE o')) F' A' L') hn) (by decide) (by decide)) (Nat.le_trans (Nat.add_le_add_right (Nat.add_le_add_right hu _) _) (Nat.le_of_ble_eq_true rfl)) (Nat.le_trans (Nat.add_le_add_right (Nat.add_le_add_right hs _) _) (Nat.le_of_ble_eq_true rfl)) (r_say (d := d + 38) (w := cW (aUp w 1438 (oE o')) F' A' L') hI.1.2.1.1 hI.m20 hI.1.2.2.1.1 hI.c16 hI.1.2.2.2.2.1.1 hI.s200 hn) (fun v9 w9 hq => ?_) (fun E w9 hx => hx.elim)
  obtain ⟨rfl, m', RA', RB', rfl, hm, hk, hA⟩ := hq
  rw [← lW_r]
  exact tl_i kt_24 hn hm ho (by rw [Nat.add_assoc]; exact Nat.add_le_add_left (Nat.le_of_ble_eq_true rfl) _) (by rw [Nat.add_assoc]; exact Nat.add_le_add_left (Nat.le_of_ble_eq_true rfl) _) (by omega) (by omega) (gs_ca hB hvc hv' hS hk hA) go
theorem k_25 (hG : Gs w c W) (hn : w.1 = N0) (hgs : g.1 300 = some (0, n, s)) (hcn : 6 * c + 5 < n) (hn3 : n ≤ 3072) (hri : HRi g) (htx : HTx g) (hu : uc ≤ 5000) (hs : us ≤ 130000) (go : GoT g d w c (uc + 5) (us + 30)) : LX g d W uc us 1213 (loL c l5 l6 l7) [] := by
  obtain ⟨o, F, A, L, m, f, RA, RB, np, nm, nc, nt, ns, nh, v, en, b, rfl, hK, hvc, hR, hI, hB⟩ := hG
  have hv : v + 1 < 2 ^ 30 := by omega
  refine x_al (kl_25 (j := 0) rfl) rfl ?_
  refine x_scr 1 (kl_25 (j := 1) rfl) (kl_25 (j := 2) rfl) (kl_25 (j := 3) rfl) (kl_25 (j := 4) rfl) (kl_25 (j := 5) rfl) rfl hgs hcn hn3 (by decide) ?_
  refine x_scr 2 (kl_25 (j := 6) rfl) (kl_25 (j := 7) rfl) (kl_25 (j := 8) rfl) (kl_25 (j := 9) rfl) (kl_25 (j := 10) rfl) rfl hgs hcn hn3 (by decide) ?_
  refine x_scr 3 (kl_25 (j := 11) rfl) (kl_25 (j := 12) rfl) (kl_25 (j := 13) rfl) (kl_25 (j := 14) rfl) (kl_25 (j := 15) rfl) rfl hgs hcn hn3 (by decide) ?_
  refine x_scr 4 (kl_25 (j := 16) rfl) (kl_25 (j := 17) rfl) (kl_25 (j := 18) rfl) (kl_25 (j := 19) rfl) (kl_25 (j := 20) rfl) rfl hgs hcn hn3 (by decide) ?_
  refine x_scr 5 (kl_25 (j := 21) rfl) (kl_25 (j := 22) rfl) (kl_25 (j := 23) rfl) (kl_25 (j := 24) rfl) (kl_25 (j := 25) rfl) rfl hgs hcn hn3 (by decide) ?_
  refine x_al (kl_25 (j := 26) rfl) rfl ?_
  refine x_inv (as := [.ref 0, .int (s (6 * c + 1)), .int (s (6 * c + 2)), .int (s (6 * c + 3)), .int (s (6 * c + 4)), .int (s (6 * c + 5)), .ref 1438]) (rest := []) (kl_25 (j := 27) rfl) rfl rfl (Nat.le_of_ble_eq_true rfl) (Or.inl hn) trivial (Nat.le_trans (Nat.add_le_add_right hu _) (Nat.le_of_ble_eq_true rfl)) (Nat.le_trans (Nat.add_le_add_right hs _) (Nat.le_of_ble_eq_true rfl)) (l_said (d := d + 36) hK hR hI hn) (fun v9 w9 hq => ?_) (fun E w9 hx => hx.elim)
  obtain ⟨rfl, F', A', L', o', np', nm', nc', nt', ns', nh', v', rfl, hv', hS, ho⟩ := hq
  refine x_is (lo' := loL c (some (.int _)) l6 l7) (kl_25 (j := 28) rfl) (Nat.le_of_ble_eq_true rfl) rfl ?_
  refine x_al (kl_25 (j := 29) rfl) rfl ?_
  refine x_scr 1 (kl_25 (j := 30) rfl) (kl_25 (j := 31) rfl) (kl_25 (j := 32) rfl) (kl_25 (j := 33) rfl) (kl_25 (j := 34) rfl) rfl hgs hcn hn3 (by decide) ?_
  refine x_scr 2 (kl_25 (j := 35) rfl) (kl_25 (j := 36) rfl) (kl_25 (j := 37) rfl) (kl_25 (j := 38) rfl) (kl_25 (j := 39) rfl) rfl hgs hcn hn3 (by decide) ?_
  refine x_scr 3 (kl_25 (j := 40) rfl) (kl_25 (j := 41) rfl) (kl_25 (j := 42) rfl) (kl_25 (j := 43) rfl) (kl_25 (j := 44) rfl) rfl hgs hcn hn3 (by decide) ?_
  refine x_scr 4 (kl_25 (j := 45) rfl) (kl_25 (j := 46) rfl) (kl_25 (j := 47) rfl) (kl_25 (j := 48) rfl) (kl_25 (j := 49) rfl) rfl hgs hcn hn3 (by decide) ?_
  refine x_scr 5 (kl_25 (j := 50) rfl) (kl_25 (j := 51) rfl) (kl_25 (j := 52) rfl) (kl_25 (j := 53) rfl) (kl_25 (j := 54) rfl) rfl hgs hcn hn3 (by decide) ?_
  rw [lW_r]
  refine x_inv (as := [.ref 1424, .int (s (6 * c + 1)), .int (s (6 * c + 2)), .int (s (6 * c + 3)), .int (s (6 * c + 4)), .int (s (6 * c + 5))]) (rest := []) (kl_25 (j := 55) rfl) rfl rfl (Nat.le_of_ble_eq_true rfl) (Or.inl hn) (rcv_at (rw_md (w := cW (aUp w 1438 (oE o')) F' A' L') hn) (by decide) (by decide)) (Nat.le_trans (Nat.add_le_add_right (Nat.add_le_add_right hu _) _) (Nat.le_of_ble_eq_true rfl)) (Nat.le_trans (Nat.add_le_add_right (Nat.add_le_add_right hs _) _) (Nat.le_of_ble_eq_true rfl)) (r_said (d := d + 38) (w := cW (aUp w 1438 (oE o')) F' A' L') hI.1.2.1.1 hI.m20 hI.1.2.2.1.1 hI.c16 hI.1.2.2.2.2.1.1 hI.s200 hn) (fun v9 w9 hq => ?_) (fun E w9 hx => hx.elim)
  obtain ⟨rfl, m', RA', RB', rfl, hm, hk, hA⟩ := hq
  rw [← lW_r]
  exact tl_i kt_25 hn hm ho (by rw [Nat.add_assoc]; exact Nat.add_le_add_left (Nat.le_of_ble_eq_true rfl) _) (by rw [Nat.add_assoc]; exact Nat.add_le_add_left (Nat.le_of_ble_eq_true rfl) _) (by omega) (by omega) (gs_ca hB hvc hv' hS hk hA) go
theorem k_26 (hG : Gs w c W) (hn : w.1 = N0) (hgs : g.1 300 = some (0, n, s)) (hcn : 6 * c + 5 < n) (hn3 : n ≤ 3072) (hri : HRi g) (htx : HTx g) (hu : uc ≤ 5000) (hs : us ≤ 130000) (go : GoT g d w c (uc + 5) (us + 30)) : LX g d W uc us 1288 (loL c l5 l6 l7) [] := by
  obtain ⟨o, F, A, L, m, f, RA, RB, np, nm, nc, nt, ns, nh, v, en, b, rfl, hK, hvc, hR, hI, hB⟩ := hG
  have hv : v + 1 < 2 ^ 30 := by omega
  refine x_al (kl_26 (j := 0) rfl) rfl ?_
  refine x_scr 1 (kl_26 (j := 1) rfl) (kl_26 (j := 2) rfl) (kl_26 (j := 3) rfl) (kl_26 (j := 4) rfl) (kl_26 (j := 5) rfl) rfl hgs hcn hn3 (by decide) ?_
  refine x_scr 2 (kl_26 (j := 6) rfl) (kl_26 (j := 7) rfl) (kl_26 (j := 8) rfl) (kl_26 (j := 9) rfl) (kl_26 (j := 10) rfl) rfl hgs hcn hn3 (by decide) ?_
  refine x_scr 3 (kl_26 (j := 11) rfl) (kl_26 (j := 12) rfl) (kl_26 (j := 13) rfl) (kl_26 (j := 14) rfl) (kl_26 (j := 15) rfl) rfl hgs hcn hn3 (by decide) ?_
  refine x_scr 4 (kl_26 (j := 16) rfl) (kl_26 (j := 17) rfl) (kl_26 (j := 18) rfl) (kl_26 (j := 19) rfl) (kl_26 (j := 20) rfl) rfl hgs hcn hn3 (by decide) ?_
  refine x_al (kl_26 (j := 21) rfl) rfl ?_
  refine x_inv (as := [.ref 0, .int (s (6 * c + 1)), .int (s (6 * c + 2)), .int (s (6 * c + 3)), .int (s (6 * c + 4)), .ref 1438]) (rest := []) (kl_26 (j := 22) rfl) rfl rfl (Nat.le_of_ble_eq_true rfl) (Or.inl hn) trivial (Nat.le_trans (Nat.add_le_add_right hu _) (Nat.le_of_ble_eq_true rfl)) (Nat.le_trans (Nat.add_le_add_right hs _) (Nat.le_of_ble_eq_true rfl)) (l_proved (d := d + 25) hK hR hI hn) (fun v9 w9 hq => ?_) (fun E w9 hx => hx.elim)
  obtain ⟨rfl, F', A', L', o', np', nm', nc', nt', ns', nh', v', rfl, hv', hS, ho⟩ := hq
  refine x_is (lo' := loL c (some (.int _)) l6 l7) (kl_26 (j := 23) rfl) (Nat.le_of_ble_eq_true rfl) rfl ?_
  refine x_al (kl_26 (j := 24) rfl) rfl ?_
  refine x_scr 1 (kl_26 (j := 25) rfl) (kl_26 (j := 26) rfl) (kl_26 (j := 27) rfl) (kl_26 (j := 28) rfl) (kl_26 (j := 29) rfl) rfl hgs hcn hn3 (by decide) ?_
  refine x_scr 2 (kl_26 (j := 30) rfl) (kl_26 (j := 31) rfl) (kl_26 (j := 32) rfl) (kl_26 (j := 33) rfl) (kl_26 (j := 34) rfl) rfl hgs hcn hn3 (by decide) ?_
  refine x_scr 3 (kl_26 (j := 35) rfl) (kl_26 (j := 36) rfl) (kl_26 (j := 37) rfl) (kl_26 (j := 38) rfl) (kl_26 (j := 39) rfl) rfl hgs hcn hn3 (by decide) ?_
  refine x_scr 4 (kl_26 (j := 40) rfl) (kl_26 (j := 41) rfl) (kl_26 (j := 42) rfl) (kl_26 (j := 43) rfl) (kl_26 (j := 44) rfl) rfl hgs hcn hn3 (by decide) ?_
  rw [lW_r]
  refine x_inv (as := [.ref 1424, .int (s (6 * c + 1)), .int (s (6 * c + 2)), .int (s (6 * c + 3)), .int (s (6 * c + 4))]) (rest := []) (kl_26 (j := 45) rfl) rfl rfl (Nat.le_of_ble_eq_true rfl) (Or.inl hn) (rcv_at (rw_md (w := cW (aUp w 1438 (oE o')) F' A' L') hn) (by decide) (by decide)) (Nat.le_trans (Nat.add_le_add_right (Nat.add_le_add_right hu _) _) (Nat.le_of_ble_eq_true rfl)) (Nat.le_trans (Nat.add_le_add_right (Nat.add_le_add_right hs _) _) (Nat.le_of_ble_eq_true rfl)) (r_proved (d := d + 25) (w := cW (aUp w 1438 (oE o')) F' A' L') (hI.di (hR.wt hI)) hn) (fun v9 w9 hq => ?_) (fun E w9 hx => hx.elim)
  obtain ⟨rfl, m', RA', RB', rfl, hm, hk, hA⟩ := hq
  rw [← lW_r]
  exact tl_b kt_26 hn hm ho (by rw [Nat.add_assoc]; exact Nat.add_le_add_left (Nat.le_of_ble_eq_true rfl) _) (by rw [Nat.add_assoc]; exact Nat.add_le_add_left (Nat.le_of_ble_eq_true rfl) _) (by omega) (by omega) (gs_ca hB hvc hv' hS hk hA) go
theorem k_27 (hG : Gs w c W) (hn : w.1 = N0) (hgs : g.1 300 = some (0, n, s)) (hcn : 6 * c + 5 < n) (hn3 : n ≤ 3072) (hri : HRi g) (htx : HTx g) (hu : uc ≤ 5000) (hs : us ≤ 130000) (go : GoT g d w c (uc + 5) (us + 30)) : LX g d W uc us 1356 (loL c l5 l6 l7) [] := by
  obtain ⟨o, F, A, L, m, f, RA, RB, np, nm, nc, nt, ns, nh, v, en, b, rfl, hK, hvc, hR, hI, hB⟩ := hG
  have hv : v + 1 < 2 ^ 30 := by omega
  refine x_al (kl_27 (j := 0) rfl) rfl ?_
  refine x_scr 1 (kl_27 (j := 1) rfl) (kl_27 (j := 2) rfl) (kl_27 (j := 3) rfl) (kl_27 (j := 4) rfl) (kl_27 (j := 5) rfl) rfl hgs hcn hn3 (by decide) ?_
  refine x_scr 2 (kl_27 (j := 6) rfl) (kl_27 (j := 7) rfl) (kl_27 (j := 8) rfl) (kl_27 (j := 9) rfl) (kl_27 (j := 10) rfl) rfl hgs hcn hn3 (by decide) ?_
  refine x_scr 3 (kl_27 (j := 11) rfl) (kl_27 (j := 12) rfl) (kl_27 (j := 13) rfl) (kl_27 (j := 14) rfl) (kl_27 (j := 15) rfl) rfl hgs hcn hn3 (by decide) ?_
  refine x_al (kl_27 (j := 16) rfl) rfl ?_
  refine x_inv (as := [.ref 0, .int (s (6 * c + 1)), .int (s (6 * c + 2)), .int (s (6 * c + 3)), .ref 1438]) (rest := []) (kl_27 (j := 17) rfl) rfl rfl (Nat.le_of_ble_eq_true rfl) (Or.inl hn) trivial (Nat.le_trans (Nat.add_le_add_right hu _) (Nat.le_of_ble_eq_true rfl)) (Nat.le_trans (Nat.add_le_add_right hs _) (Nat.le_of_ble_eq_true rfl)) (l_alike (d := d + 25) hK hR hI hn) (fun v9 w9 hq => ?_) (fun E w9 hx => hx.elim)
  obtain ⟨rfl, F', A', L', o', np', nm', nc', nt', ns', nh', v', rfl, hv', hS, ho⟩ := hq
  refine x_is (lo' := loL c (some (.int _)) l6 l7) (kl_27 (j := 18) rfl) (Nat.le_of_ble_eq_true rfl) rfl ?_
  refine x_al (kl_27 (j := 19) rfl) rfl ?_
  refine x_scr 1 (kl_27 (j := 20) rfl) (kl_27 (j := 21) rfl) (kl_27 (j := 22) rfl) (kl_27 (j := 23) rfl) (kl_27 (j := 24) rfl) rfl hgs hcn hn3 (by decide) ?_
  refine x_scr 2 (kl_27 (j := 25) rfl) (kl_27 (j := 26) rfl) (kl_27 (j := 27) rfl) (kl_27 (j := 28) rfl) (kl_27 (j := 29) rfl) rfl hgs hcn hn3 (by decide) ?_
  refine x_scr 3 (kl_27 (j := 30) rfl) (kl_27 (j := 31) rfl) (kl_27 (j := 32) rfl) (kl_27 (j := 33) rfl) (kl_27 (j := 34) rfl) rfl hgs hcn hn3 (by decide) ?_
  rw [lW_r]
  refine x_inv (as := [.ref 1424, .int (s (6 * c + 1)), .int (s (6 * c + 2)), .int (s (6 * c + 3))]) (rest := []) (kl_27 (j := 35) rfl) rfl rfl (Nat.le_of_ble_eq_true rfl) (Or.inl hn) (rcv_at (rw_md (w := cW (aUp w 1438 (oE o')) F' A' L') hn) (by decide) (by decide)) (Nat.le_trans (Nat.add_le_add_right (Nat.add_le_add_right hu _) _) (Nat.le_of_ble_eq_true rfl)) (Nat.le_trans (Nat.add_le_add_right (Nat.add_le_add_right hs _) _) (Nat.le_of_ble_eq_true rfl)) (r_alike (d := d + 27) (w := cW (aUp w 1438 (oE o')) F' A' L') (hR.wt hI) hI.wp hI.wf hn) (fun v9 w9 hq => ?_) (fun E w9 hx => hx.elim)
  obtain ⟨rfl, m', RA', RB', rfl, hm, hk, hA⟩ := hq
  rw [← lW_r]
  exact tl_i kt_27 hn hm ho (by rw [Nat.add_assoc]; exact Nat.add_le_add_left (Nat.le_of_ble_eq_true rfl) _) (by rw [Nat.add_assoc]; exact Nat.add_le_add_left (Nat.le_of_ble_eq_true rfl) _) (by omega) (by omega) (gs_ca hB hvc hv' hS hk hA) go
theorem k_28 (hG : Gs w c W) (hn : w.1 = N0) (hgs : g.1 300 = some (0, n, s)) (hcn : 6 * c + 5 < n) (hn3 : n ≤ 3072) (hri : HRi g) (htx : HTx g) (hu : uc ≤ 5000) (hs : us ≤ 130000) (go : GoT g d w c (uc + 5) (us + 30)) : LX g d W uc us 1411 (loL c l5 l6 l7) [] := by
  obtain ⟨o, F, A, L, m, f, RA, RB, np, nm, nc, nt, ns, nh, v, en, b, rfl, hK, hvc, hR, hI, hB⟩ := hG
  have hv : v + 1 < 2 ^ 30 := by omega
  refine x_al (kl_28 (j := 0) rfl) rfl ?_
  refine x_scr 1 (kl_28 (j := 1) rfl) (kl_28 (j := 2) rfl) (kl_28 (j := 3) rfl) (kl_28 (j := 4) rfl) (kl_28 (j := 5) rfl) rfl hgs hcn hn3 (by decide) ?_
  refine x_scr 2 (kl_28 (j := 6) rfl) (kl_28 (j := 7) rfl) (kl_28 (j := 8) rfl) (kl_28 (j := 9) rfl) (kl_28 (j := 10) rfl) rfl hgs hcn hn3 (by decide) ?_
  refine x_al (kl_28 (j := 11) rfl) rfl ?_
  refine x_inv (as := [.ref 0, .int (s (6 * c + 1)), .int (s (6 * c + 2)), .ref 1438]) (rest := []) (kl_28 (j := 12) rfl) rfl rfl (Nat.le_of_ble_eq_true rfl) (Or.inl hn) trivial (Nat.le_trans (Nat.add_le_add_right hu _) (Nat.le_of_ble_eq_true rfl)) (Nat.le_trans (Nat.add_le_add_right hs _) (Nat.le_of_ble_eq_true rfl)) (l_person (d := d + 24) hK hR hI hn) (fun v9 w9 hq => ?_) (fun E w9 hx => hx.elim)
  obtain ⟨rfl, F', A', L', o', np', nm', nc', nt', ns', nh', v', rfl, hv', hS, ho⟩ := hq
  refine x_is (lo' := loL c (some (.int _)) l6 l7) (kl_28 (j := 13) rfl) (Nat.le_of_ble_eq_true rfl) rfl ?_
  refine x_al (kl_28 (j := 14) rfl) rfl ?_
  refine x_scr 1 (kl_28 (j := 15) rfl) (kl_28 (j := 16) rfl) (kl_28 (j := 17) rfl) (kl_28 (j := 18) rfl) (kl_28 (j := 19) rfl) rfl hgs hcn hn3 (by decide) ?_
  refine x_scr 2 (kl_28 (j := 20) rfl) (kl_28 (j := 21) rfl) (kl_28 (j := 22) rfl) (kl_28 (j := 23) rfl) (kl_28 (j := 24) rfl) rfl hgs hcn hn3 (by decide) ?_
  rw [lW_r]
  refine x_inv (as := [.ref 1424, .int (s (6 * c + 1)), .int (s (6 * c + 2))]) (rest := []) (kl_28 (j := 25) rfl) rfl rfl (Nat.le_of_ble_eq_true rfl) (Or.inl hn) (rcv_at (rw_md (w := cW (aUp w 1438 (oE o')) F' A' L') hn) (by decide) (by decide)) (Nat.le_trans (Nat.add_le_add_right (Nat.add_le_add_right hu _) _) (Nat.le_of_ble_eq_true rfl)) (Nat.le_trans (Nat.add_le_add_right (Nat.add_le_add_right hs _) _) (Nat.le_of_ble_eq_true rfl)) (r_person (d := d + 26) (w := cW (aUp w 1438 (oE o')) F' A' L') (hR.wt hI) hI.wp hI.wf hn) (fun v9 w9 hq => ?_) (fun E w9 hx => hx.elim)
  obtain ⟨rfl, m', RA', RB', rfl, hm, hk, hA⟩ := hq
  rw [← lW_r]
  have ee : (if okN (s (6 * c + 1)) nc = true then leastF f nt nc (s (6 * c + 2)) (A 1423) (cN (s (6 * c + 1))) else 0) = if okN (s (6 * c + 1)) nc = true then leastF f nt nc (s (6 * c + 2)) (RA 1437) (cN (s (6 * c + 1))) else 0 := by
    by_cases h : okN (s (6 * c + 1)) nc = true
    · obtain ⟨p, hp, _, e⟩ := ok_of h (by have := hI.c16; omega)
      rw [if_pos h, if_pos h]
      exact leastF_c _ (by rw [e]; exact hp)
    · rw [if_neg h, if_neg h]
  rw [ee] at ho
  exact tl_i kt_28 hn hm ho (by rw [Nat.add_assoc]; exact Nat.add_le_add_left (Nat.le_of_ble_eq_true rfl) _) (by rw [Nat.add_assoc]; exact Nat.add_le_add_left (Nat.le_of_ble_eq_true rfl) _) (by omega) (by omega) (gs_ca hB hvc hv' hS hk hA) go
theorem k_29 (hG : Gs w c W) (hn : w.1 = N0) (hgs : g.1 300 = some (0, n, s)) (hcn : 6 * c + 5 < n) (hn3 : n ≤ 3072) (hri : HRi g) (htx : HTx g) (hu : uc ≤ 5000) (hs : us ≤ 130000) (go : GoT g d w c (uc + 5) (us + 30)) : LX g d W uc us 1456 (loL c l5 l6 l7) [] := by
  obtain ⟨o, F, A, L, m, f, RA, RB, np, nm, nc, nt, ns, nh, v, en, b, rfl, hK, hvc, hR, hI, hB⟩ := hG
  have hv : v + 1 < 2 ^ 30 := by omega
  have hB2 := hB
  obtain ⟨⟨b1, b2, b3, b4⟩, b5, b6, b7⟩ := hB2
  refine x_al (kl_29 (j := 0) rfl) rfl ?_
  refine x_scr 1 (kl_29 (j := 1) rfl) (kl_29 (j := 2) rfl) (kl_29 (j := 3) rfl) (kl_29 (j := 4) rfl) (kl_29 (j := 5) rfl) rfl hgs hcn hn3 (by decide) ?_
  refine x_scr 2 (kl_29 (j := 6) rfl) (kl_29 (j := 7) rfl) (kl_29 (j := 8) rfl) (kl_29 (j := 9) rfl) (kl_29 (j := 10) rfl) rfl hgs hcn hn3 (by decide) ?_
  refine x_b01 (kl_29 (j := 11) rfl) (kl_29 (j := 12) rfl) (kl_29 (j := 13) rfl) (kl_29 (j := 14) rfl) rfl ?_
  refine x_inv (as := [.ref 0, .int (s (6 * c + 1)), .int (bI (decide (¬ (s (6 * c + 2)) = 0)))]) (rest := []) (kl_29 (j := 15) rfl) rfl rfl (Nat.le_of_ble_eq_true rfl) (Or.inl hn) (rcv_at (cw_fs (w := rW (aUp w 1438 (oE o)) m f RA RB) sp_0 hn) (by decide) (by decide)) (Nat.le_trans (Nat.add_le_add_right hu _) (Nat.le_of_ble_eq_true rfl)) (Nat.le_trans (Nat.add_le_add_right hs _) (Nat.le_of_ble_eq_true rfl)) (c_persons (d := d + 25) (w := rW (aUp w 1438 (oE o)) m f RA RB) hK hR hI hn) (fun v9 w9 hq => ?_) (fun E w9 hx => hx.elim)
  obtain ⟨_, rfl, F', A', L', np', nm', nc', nt', ns', nh', v', rfl, hv', hS⟩ := hq
  rw [cw_rw]
  refine x_al (kl_29 (j := 16) rfl) rfl ?_
  refine x_scr 1 (kl_29 (j := 17) rfl) (kl_29 (j := 18) rfl) (kl_29 (j := 19) rfl) (kl_29 (j := 20) rfl) (kl_29 (j := 21) rfl) rfl hgs hcn hn3 (by decide) ?_
  refine x_scr 2 (kl_29 (j := 22) rfl) (kl_29 (j := 23) rfl) (kl_29 (j := 24) rfl) (kl_29 (j := 25) rfl) (kl_29 (j := 26) rfl) rfl hgs hcn hn3 (by decide) ?_
  refine x_b01 (kl_29 (j := 27) rfl) (kl_29 (j := 28) rfl) (kl_29 (j := 29) rfl) (kl_29 (j := 30) rfl) rfl ?_
  refine x_inv (as := [.ref 1424, .int (s (6 * c + 1)), .int (bI (decide (¬ (s (6 * c + 2)) = 0)))]) (rest := [.int _]) (kl_29 (j := 31) rfl) rfl rfl (Nat.le_of_ble_eq_true rfl) (Or.inl hn) (rcv_at (rw_md (w := cW (aUp w 1438 (oE o)) F' A' L') hn) (by decide) (by decide)) (Nat.le_trans (Nat.add_le_add_right (Nat.add_le_add_right hu _) _) (Nat.le_of_ble_eq_true rfl)) (Nat.le_trans (Nat.add_le_add_right (Nat.add_le_add_right hs _) _) (Nat.le_of_ble_eq_true rfl)) (r_persons (d := d + 26) (w := cW (aUp w 1438 (oE o)) F' A' L') (hR.wt hI) hI.wp hI.wf hn) (fun v9 w9 hq => ?_) (fun E w9 hx => hx.elim)
  obtain ⟨rfl, m', RA', RB', rfl, hm, hk, hA⟩ := hq
  rw [← lW_r]
  rw [show cn (perB f (leastF f nt nc (s (6 * c + 1)) (A 1423)) nc (decide (¬ s (6 * c + 2) = 0))) nc = cn (perB f (leastF f nt nc (s (6 * c + 1)) (RA 1437)) nc (decide (¬ s (6 * c + 2) = 0))) nc from perB_c leastF_c]
  exact tl_d kt_29 (by rw [Nat.add_assoc]; exact Nat.add_le_add_left (Nat.le_of_ble_eq_true rfl) _) (by rw [Nat.add_assoc]; exact Nat.add_le_add_left (Nat.le_of_ble_eq_true rfl) _) (gs_ca hB hvc hv' hS hk hA) go
theorem k_30 (hG : Gs w c W) (hn : w.1 = N0) (hgs : g.1 300 = some (0, n, s)) (hcn : 6 * c + 5 < n) (hn3 : n ≤ 3072) (hri : HRi g) (htx : HTx g) (hu : uc ≤ 5000) (hs : us ≤ 130000) (go : GoT g d w c (uc + 5) (us + 30)) : LX g d W uc us 1491 (loL c l5 l6 l7) [] := by
  obtain ⟨o, F, A, L, m, f, RA, RB, np, nm, nc, nt, ns, nh, v, en, b, rfl, hK, hvc, hR, hI, hB⟩ := hG
  have hv : v + 1 < 2 ^ 30 := by omega
  refine x_al (kl_30 (j := 0) rfl) rfl ?_
  refine x_scr 1 (kl_30 (j := 1) rfl) (kl_30 (j := 2) rfl) (kl_30 (j := 3) rfl) (kl_30 (j := 4) rfl) (kl_30 (j := 5) rfl) rfl hgs hcn hn3 (by decide) ?_
  refine x_scr 2 (kl_30 (j := 6) rfl) (kl_30 (j := 7) rfl) (kl_30 (j := 8) rfl) (kl_30 (j := 9) rfl) (kl_30 (j := 10) rfl) rfl hgs hcn hn3 (by decide) ?_
  refine x_al (kl_30 (j := 11) rfl) rfl ?_
  refine x_inv (as := [.ref 0, .int (s (6 * c + 1)), .int (s (6 * c + 2)), .ref 1438]) (rest := []) (kl_30 (j := 12) rfl) rfl rfl (Nat.le_of_ble_eq_true rfl) (Or.inl hn) trivial (Nat.le_trans (Nat.add_le_add_right hu _) (Nat.le_of_ble_eq_true rfl)) (Nat.le_trans (Nat.add_le_add_right hs _) (Nat.le_of_ble_eq_true rfl)) (l_tell (d := d + 36) hK hR hI hn) (fun v9 w9 hq => ?_) (fun E w9 hx => hx.elim)
  obtain ⟨rfl, F', A', L', o', np', nm', nc', nt', ns', nh', v', rfl, hv', hS, ho⟩ := hq
  refine x_is (lo' := loL c (some (.int _)) l6 l7) (kl_30 (j := 13) rfl) (Nat.le_of_ble_eq_true rfl) rfl ?_
  refine x_al (kl_30 (j := 14) rfl) rfl ?_
  refine x_scr 1 (kl_30 (j := 15) rfl) (kl_30 (j := 16) rfl) (kl_30 (j := 17) rfl) (kl_30 (j := 18) rfl) (kl_30 (j := 19) rfl) rfl hgs hcn hn3 (by decide) ?_
  refine x_scr 2 (kl_30 (j := 20) rfl) (kl_30 (j := 21) rfl) (kl_30 (j := 22) rfl) (kl_30 (j := 23) rfl) (kl_30 (j := 24) rfl) rfl hgs hcn hn3 (by decide) ?_
  rw [lW_r]
  refine x_inv (as := [.ref 1424, .int (s (6 * c + 1)), .int (s (6 * c + 2))]) (rest := []) (kl_30 (j := 25) rfl) rfl rfl (Nat.le_of_ble_eq_true rfl) (Or.inl hn) (rcv_at (rw_md (w := cW (aUp w 1438 (oE o')) F' A' L') hn) (by decide) (by decide)) (Nat.le_trans (Nat.add_le_add_right (Nat.add_le_add_right hu _) _) (Nat.le_of_ble_eq_true rfl)) (Nat.le_trans (Nat.add_le_add_right (Nat.add_le_add_right hs _) _) (Nat.le_of_ble_eq_true rfl)) (r_tell (d := d + 38) (w := cW (aUp w 1438 (oE o')) F' A' L') hI.1.2.2.1.1 hI.c16 hn) (fun v9 w9 hq => ?_) (fun E w9 hx => hx.elim)
  obtain ⟨rfl, m', RA', RB', rfl, hm, hk, hA⟩ := hq
  rw [← lW_r]
  exact tl_b kt_30 hn hm ho (by rw [Nat.add_assoc]; exact Nat.add_le_add_left (Nat.le_of_ble_eq_true rfl) _) (by rw [Nat.add_assoc]; exact Nat.add_le_add_left (Nat.le_of_ble_eq_true rfl) _) (by omega) (by omega) (gs_ca hB hvc hv' hS hk hA) go
theorem k_31 (hG : Gs w c W) (hn : w.1 = N0) (hgs : g.1 300 = some (0, n, s)) (hcn : 6 * c + 5 < n) (hn3 : n ≤ 3072) (hri : HRi g) (htx : HTx g) (hu : uc ≤ 5000) (hs : us ≤ 130000) (go : GoT g d w c (uc + 5) (us + 30)) : LX g d W uc us 1539 (loL c l5 l6 l7) [] := by
  obtain ⟨o, F, A, L, m, f, RA, RB, np, nm, nc, nt, ns, nh, v, en, b, rfl, hK, hvc, hR, hI, hB⟩ := hG
  have hv : v + 1 < 2 ^ 30 := by omega
  refine x_al (kl_31 (j := 0) rfl) rfl ?_
  refine x_scr 1 (kl_31 (j := 1) rfl) (kl_31 (j := 2) rfl) (kl_31 (j := 3) rfl) (kl_31 (j := 4) rfl) (kl_31 (j := 5) rfl) rfl hgs hcn hn3 (by decide) ?_
  refine x_scr 2 (kl_31 (j := 6) rfl) (kl_31 (j := 7) rfl) (kl_31 (j := 8) rfl) (kl_31 (j := 9) rfl) (kl_31 (j := 10) rfl) rfl hgs hcn hn3 (by decide) ?_
  refine x_al (kl_31 (j := 11) rfl) rfl ?_
  refine x_inv (as := [.ref 0, .int (s (6 * c + 1)), .int (s (6 * c + 2)), .ref 1438]) (rest := []) (kl_31 (j := 12) rfl) rfl rfl (Nat.le_of_ble_eq_true rfl) (Or.inl hn) trivial (Nat.le_trans (Nat.add_le_add_right hu _) (Nat.le_of_ble_eq_true rfl)) (Nat.le_trans (Nat.add_le_add_right hs _) (Nat.le_of_ble_eq_true rfl)) (l_kept (d := d + 34) hK hR hI hn) (fun v9 w9 hq => ?_) (fun E w9 hx => hx.elim)
  obtain ⟨rfl, F', A', L', o', np', nm', nc', nt', ns', nh', v', rfl, hv', hS, ho⟩ := hq
  refine x_is (lo' := loL c (some (.int _)) l6 l7) (kl_31 (j := 13) rfl) (Nat.le_of_ble_eq_true rfl) rfl ?_
  refine x_al (kl_31 (j := 14) rfl) rfl ?_
  refine x_scr 1 (kl_31 (j := 15) rfl) (kl_31 (j := 16) rfl) (kl_31 (j := 17) rfl) (kl_31 (j := 18) rfl) (kl_31 (j := 19) rfl) rfl hgs hcn hn3 (by decide) ?_
  refine x_scr 2 (kl_31 (j := 20) rfl) (kl_31 (j := 21) rfl) (kl_31 (j := 22) rfl) (kl_31 (j := 23) rfl) (kl_31 (j := 24) rfl) rfl hgs hcn hn3 (by decide) ?_
  rw [lW_r]
  refine x_inv (as := [.ref 1424, .int (s (6 * c + 1)), .int (s (6 * c + 2))]) (rest := []) (kl_31 (j := 25) rfl) rfl rfl (Nat.le_of_ble_eq_true rfl) (Or.inl hn) (rcv_at (rw_md (w := cW (aUp w 1438 (oE o')) F' A' L') hn) (by decide) (by decide)) (Nat.le_trans (Nat.add_le_add_right (Nat.add_le_add_right hu _) _) (Nat.le_of_ble_eq_true rfl)) (Nat.le_trans (Nat.add_le_add_right (Nat.add_le_add_right hs _) _) (Nat.le_of_ble_eq_true rfl)) (r_kept (d := d + 36) (w := cW (aUp w 1438 (oE o')) F' A' L') (hR.wt hI) hI.1.2.2.1.1 hI.c16 hn) (fun v9 w9 hq => ?_) (fun E w9 hx => hx.elim)
  obtain ⟨rfl, m', RA', RB', rfl, hm, hk, hA⟩ := hq
  rw [← lW_r]
  exact tl_i kt_31 hn hm ho (by rw [Nat.add_assoc]; exact Nat.add_le_add_left (Nat.le_of_ble_eq_true rfl) _) (by rw [Nat.add_assoc]; exact Nat.add_le_add_left (Nat.le_of_ble_eq_true rfl) _) (by omega) (by omega) (gs_ca hB hvc hv' hS hk hA) go
theorem k_32 (hG : Gs w c W) (hn : w.1 = N0) (hgs : g.1 300 = some (0, n, s)) (hcn : 6 * c + 5 < n) (hn3 : n ≤ 3072) (hri : HRi g) (htx : HTx g) (hu : uc ≤ 5000) (hs : us ≤ 130000) (go : GoT g d w c (uc + 5) (us + 30)) : LX g d W uc us 1584 (loL c l5 l6 l7) [] := by
  obtain ⟨o, F, A, L, m, f, RA, RB, np, nm, nc, nt, ns, nh, v, en, b, rfl, hK, hvc, hR, hI, hB⟩ := hG
  have hv : v + 1 < 2 ^ 30 := by omega
  refine x_al (kl_32 (j := 0) rfl) rfl ?_
  refine x_scr 1 (kl_32 (j := 1) rfl) (kl_32 (j := 2) rfl) (kl_32 (j := 3) rfl) (kl_32 (j := 4) rfl) (kl_32 (j := 5) rfl) rfl hgs hcn hn3 (by decide) ?_
  refine x_inv (as := [.ref 0, .int (s (6 * c + 1))]) (rest := []) (kl_32 (j := 6) rfl) rfl rfl (Nat.le_of_ble_eq_true rfl) (Or.inl hn) trivial (Nat.le_trans (Nat.add_le_add_right hu _) (Nat.le_of_ble_eq_true rfl)) (Nat.le_trans (Nat.add_le_add_right hs _) (Nat.le_of_ble_eq_true rfl)) (l_desk (d := d + 38) hK hR hI hn) (fun v9 w9 hq => ?_) (fun E w9 hx => hx.elim)
  obtain ⟨rfl, F', A', L', o', np', nm', nc', nt', ns', nh', v', rfl, hv', hS⟩ := hq
  refine x_is (lo' := loL c (some (.int _)) l6 l7) (kl_32 (j := 7) rfl) (Nat.le_of_ble_eq_true rfl) rfl ?_
  refine x_al (kl_32 (j := 8) rfl) rfl ?_
  refine x_scr 1 (kl_32 (j := 9) rfl) (kl_32 (j := 10) rfl) (kl_32 (j := 11) rfl) (kl_32 (j := 12) rfl) (kl_32 (j := 13) rfl) rfl hgs hcn hn3 (by decide) ?_
  rw [lW_r]
  refine x_inv (as := [.ref 1424, .int (s (6 * c + 1))]) (rest := []) (kl_32 (j := 14) rfl) rfl rfl (Nat.le_of_ble_eq_true rfl) (Or.inl hn) (rcv_at (rw_md (w := cW (aUp w 1438 (oE o')) F' A' L') hn) (by decide) (by decide)) (Nat.le_trans (Nat.add_le_add_right (Nat.add_le_add_right hu _) _) (Nat.le_of_ble_eq_true rfl)) (Nat.le_trans (Nat.add_le_add_right (Nat.add_le_add_right hs _) _) (Nat.le_of_ble_eq_true rfl)) (r_desk (d := d + 39) (w := cW (aUp w 1438 (oE o')) F' A' L') hn) (fun v9 w9 hq => ?_) (fun E w9 hx => hx.elim)
  obtain ⟨rfl, m', RA', RB', rfl, hm, hk, hA⟩ := hq
  rw [← lW_r]
  exact tl_v kt_32 hn hm (by rw [Nat.add_assoc]; exact Nat.add_le_add_left (Nat.le_of_ble_eq_true rfl) _) (by rw [Nat.add_assoc]; exact Nat.add_le_add_left (Nat.le_of_ble_eq_true rfl) _) (by omega) (by omega) (gs_ca hB hvc hv' hS hk hA) go
theorem k_33 (hG : Gs w c W) (hn : w.1 = N0) (hgs : g.1 300 = some (0, n, s)) (hcn : 6 * c + 5 < n) (hn3 : n ≤ 3072) (hri : HRi g) (htx : HTx g) (hu : uc ≤ 5000) (hs : us ≤ 130000) (go : GoT g d w c (uc + 5) (us + 30)) : LX g d W uc us 1606 (loL c l5 l6 l7) [] := by
  obtain ⟨o, F, A, L, m, f, RA, RB, np, nm, nc, nt, ns, nh, v, en, b, rfl, hK, hvc, hR, hI, hB⟩ := hG
  have hv : v + 1 < 2 ^ 30 := by omega
  refine x_al (kl_33 (j := 0) rfl) rfl ?_
  refine x_scr 1 (kl_33 (j := 1) rfl) (kl_33 (j := 2) rfl) (kl_33 (j := 3) rfl) (kl_33 (j := 4) rfl) (kl_33 (j := 5) rfl) rfl hgs hcn hn3 (by decide) ?_
  refine x_al (kl_33 (j := 6) rfl) rfl ?_
  refine x_inv (as := [.ref 0, .int (s (6 * c + 1)), .ref 1438]) (rest := []) (kl_33 (j := 7) rfl) rfl rfl (Nat.le_of_ble_eq_true rfl) (Or.inl hn) trivial (Nat.le_trans (Nat.add_le_add_right hu _) (Nat.le_of_ble_eq_true rfl)) (Nat.le_trans (Nat.add_le_add_right hs _) (Nat.le_of_ble_eq_true rfl)) (l_days (d := d + 24) hK hR hI hn) (fun v9 w9 hq => ?_) (fun E w9 hx => hx.elim)
  obtain ⟨rfl, F', A', L', o', np', nm', nc', nt', ns', nh', v', rfl, hv', hS, ho⟩ := hq
  refine x_is (lo' := loL c (some (.int _)) l6 l7) (kl_33 (j := 8) rfl) (Nat.le_of_ble_eq_true rfl) rfl ?_
  refine x_al (kl_33 (j := 9) rfl) rfl ?_
  refine x_scr 1 (kl_33 (j := 10) rfl) (kl_33 (j := 11) rfl) (kl_33 (j := 12) rfl) (kl_33 (j := 13) rfl) (kl_33 (j := 14) rfl) rfl hgs hcn hn3 (by decide) ?_
  rw [lW_r]
  refine x_inv (as := [.ref 1424, .int (s (6 * c + 1))]) (rest := []) (kl_33 (j := 15) rfl) rfl rfl (Nat.le_of_ble_eq_true rfl) (Or.inl hn) (rcv_at (rw_md (w := cW (aUp w 1438 (oE o')) F' A' L') hn) (by decide) (by decide)) (Nat.le_trans (Nat.add_le_add_right (Nat.add_le_add_right hu _) _) (Nat.le_of_ble_eq_true rfl)) (Nat.le_trans (Nat.add_le_add_right (Nat.add_le_add_right hs _) _) (Nat.le_of_ble_eq_true rfl)) (r_days (d := d + 23) (w := cW (aUp w 1438 (oE o')) F' A' L') (hI.dj (hR.wt hI)) hn) (fun v9 w9 hq => ?_) (fun E w9 hx => hx.elim)
  obtain ⟨rfl, m', RA', RB', rfl, hm, hk, hA⟩ := hq
  rw [← lW_r]
  exact tl_i kt_33 hn hm ho (by rw [Nat.add_assoc]; exact Nat.add_le_add_left (Nat.le_of_ble_eq_true rfl) _) (by rw [Nat.add_assoc]; exact Nat.add_le_add_left (Nat.le_of_ble_eq_true rfl) _) (by omega) (by omega) (gs_ca hB hvc hv' hS hk hA) go
theorem k_34 (hG : Gs w c W) (hn : w.1 = N0) (hgs : g.1 300 = some (0, n, s)) (hcn : 6 * c + 5 < n) (hn3 : n ≤ 3072) (hri : HRi g) (htx : HTx g) (hu : uc ≤ 5000) (hs : us ≤ 130000) (go : GoT g d w c (uc + 5) (us + 30)) : LX g d W uc us 1641 (loL c l5 l6 l7) [] := by
  obtain ⟨o, F, A, L, m, f, RA, RB, np, nm, nc, nt, ns, nh, v, en, b, rfl, hK, hvc, hR, hI, hB⟩ := hG
  have hv : v + 1 < 2 ^ 30 := by omega
  refine x_al (kl_34 (j := 0) rfl) rfl ?_
  refine x_scr 1 (kl_34 (j := 1) rfl) (kl_34 (j := 2) rfl) (kl_34 (j := 3) rfl) (kl_34 (j := 4) rfl) (kl_34 (j := 5) rfl) rfl hgs hcn hn3 (by decide) ?_
  refine x_scr 2 (kl_34 (j := 6) rfl) (kl_34 (j := 7) rfl) (kl_34 (j := 8) rfl) (kl_34 (j := 9) rfl) (kl_34 (j := 10) rfl) rfl hgs hcn hn3 (by decide) ?_
  refine x_al (kl_34 (j := 11) rfl) rfl ?_
  refine x_inv (as := [.ref 0, .int (s (6 * c + 1)), .int (s (6 * c + 2)), .ref 1438]) (rest := []) (kl_34 (j := 12) rfl) rfl rfl (Nat.le_of_ble_eq_true rfl) (Or.inl hn) trivial (Nat.le_trans (Nat.add_le_add_right hu _) (Nat.le_of_ble_eq_true rfl)) (Nat.le_trans (Nat.add_le_add_right hs _) (Nat.le_of_ble_eq_true rfl)) (l_look (d := d + 35) hK hR hI hn) (fun v9 w9 hq => ?_) (fun E w9 hx => hx.elim)
  obtain ⟨rfl, F', A', L', o', np', nm', nc', nt', ns', nh', v', rfl, hv', hS, ho⟩ := hq
  refine x_is (lo' := loL c (some (.int _)) l6 l7) (kl_34 (j := 13) rfl) (Nat.le_of_ble_eq_true rfl) rfl ?_
  refine x_al (kl_34 (j := 14) rfl) rfl ?_
  refine x_scr 1 (kl_34 (j := 15) rfl) (kl_34 (j := 16) rfl) (kl_34 (j := 17) rfl) (kl_34 (j := 18) rfl) (kl_34 (j := 19) rfl) rfl hgs hcn hn3 (by decide) ?_
  refine x_scr 2 (kl_34 (j := 20) rfl) (kl_34 (j := 21) rfl) (kl_34 (j := 22) rfl) (kl_34 (j := 23) rfl) (kl_34 (j := 24) rfl) rfl hgs hcn hn3 (by decide) ?_
  rw [lW_r]
  refine x_inv (as := [.ref 1424, .int (s (6 * c + 1)), .int (s (6 * c + 2))]) (rest := []) (kl_34 (j := 25) rfl) rfl rfl (Nat.le_of_ble_eq_true rfl) (Or.inl hn) (rcv_at (rw_md (w := cW (aUp w 1438 (oE o')) F' A' L') hn) (by decide) (by decide)) (Nat.le_trans (Nat.add_le_add_right (Nat.add_le_add_right hu _) _) (Nat.le_of_ble_eq_true rfl)) (Nat.le_trans (Nat.add_le_add_right (Nat.add_le_add_right hs _) _) (Nat.le_of_ble_eq_true rfl)) (r_look (d := d + 38) (w := cW (aUp w 1438 (oE o')) F' A' L') hI.1.2.2.1.1 hI.c16 hI.1.2.2.2.2.2.1 hI.h200 hn) (fun v9 w9 hq => ?_) (fun E w9 hx => hx.elim)
  obtain ⟨rfl, m', RA', RB', rfl, hm, hk, hA⟩ := hq
  rw [← lW_r]
  exact tl_i kt_34 hn hm ho (by rw [Nat.add_assoc]; exact Nat.add_le_add_left (Nat.le_of_ble_eq_true rfl) _) (by rw [Nat.add_assoc]; exact Nat.add_le_add_left (Nat.le_of_ble_eq_true rfl) _) (by omega) (by omega) (gs_ca hB hvc hv' hS hk hA) go
theorem k_35 (hG : Gs w c W) (hn : w.1 = N0) (hgs : g.1 300 = some (0, n, s)) (hcn : 6 * c + 5 < n) (hn3 : n ≤ 3072) (hri : HRi g) (htx : HTx g) (hu : uc ≤ 5000) (hs : us ≤ 130000) (go : GoT g d w c (uc + 5) (us + 30)) : LX g d W uc us 1686 (loL c l5 l6 l7) [] := by
  obtain ⟨o, F, A, L, m, f, RA, RB, np, nm, nc, nt, ns, nh, v, en, b, rfl, hK, hvc, hR, hI, hB⟩ := hG
  have hv : v + 1 < 2 ^ 30 := by omega
  refine x_al (kl_35 (j := 0) rfl) rfl ?_
  refine x_scr 1 (kl_35 (j := 1) rfl) (kl_35 (j := 2) rfl) (kl_35 (j := 3) rfl) (kl_35 (j := 4) rfl) (kl_35 (j := 5) rfl) rfl hgs hcn hn3 (by decide) ?_
  refine x_scr 2 (kl_35 (j := 6) rfl) (kl_35 (j := 7) rfl) (kl_35 (j := 8) rfl) (kl_35 (j := 9) rfl) (kl_35 (j := 10) rfl) rfl hgs hcn hn3 (by decide) ?_
  refine x_al (kl_35 (j := 11) rfl) rfl ?_
  refine x_inv (as := [.ref 0, .int (s (6 * c + 1)), .int (s (6 * c + 2)), .ref 1438]) (rest := []) (kl_35 (j := 12) rfl) rfl rfl (Nat.le_of_ble_eq_true rfl) (Or.inl hn) trivial (Nat.le_trans (Nat.add_le_add_right hu _) (Nat.le_of_ble_eq_true rfl)) (Nat.le_trans (Nat.add_le_add_right hs _) (Nat.le_of_ble_eq_true rfl)) (l_hit (d := d + 37) hK hR hI hn) (fun v9 w9 hq => ?_) (fun E w9 hx => hx.elim)
  obtain ⟨rfl, F', A', L', o', np', nm', nc', nt', ns', nh', v', rfl, hv', hS, ho⟩ := hq
  refine x_is (lo' := loL c (some (.int _)) l6 l7) (kl_35 (j := 13) rfl) (Nat.le_of_ble_eq_true rfl) rfl ?_
  refine x_al (kl_35 (j := 14) rfl) rfl ?_
  refine x_scr 1 (kl_35 (j := 15) rfl) (kl_35 (j := 16) rfl) (kl_35 (j := 17) rfl) (kl_35 (j := 18) rfl) (kl_35 (j := 19) rfl) rfl hgs hcn hn3 (by decide) ?_
  refine x_scr 2 (kl_35 (j := 20) rfl) (kl_35 (j := 21) rfl) (kl_35 (j := 22) rfl) (kl_35 (j := 23) rfl) (kl_35 (j := 24) rfl) rfl hgs hcn hn3 (by decide) ?_
  rw [lW_r]
  refine x_inv (as := [.ref 1424, .int (s (6 * c + 1)), .int (s (6 * c + 2))]) (rest := []) (kl_35 (j := 25) rfl) rfl rfl (Nat.le_of_ble_eq_true rfl) (Or.inl hn) (rcv_at (rw_md (w := cW (aUp w 1438 (oE o')) F' A' L') hn) (by decide) (by decide)) (Nat.le_trans (Nat.add_le_add_right (Nat.add_le_add_right hu _) _) (Nat.le_of_ble_eq_true rfl)) (Nat.le_trans (Nat.add_le_add_right (Nat.add_le_add_right hs _) _) (Nat.le_of_ble_eq_true rfl)) (r_hit (d := d + 39) (w := cW (aUp w 1438 (oE o')) F' A' L') hI.1.2.2.2.2.2.1 hI.h200 hn) (fun v9 w9 hq => ?_) (fun E w9 hx => hx.elim)
  obtain ⟨rfl, m', RA', RB', rfl, hm, hk, hA⟩ := hq
  rw [← lW_r]
  exact tl_i kt_35 hn hm ho (by rw [Nat.add_assoc]; exact Nat.add_le_add_left (Nat.le_of_ble_eq_true rfl) _) (by rw [Nat.add_assoc]; exact Nat.add_le_add_left (Nat.le_of_ble_eq_true rfl) _) (by omega) (by omega) (gs_ca hB hvc hv' hS hk hA) go
theorem k_36 (hG : Gs w c W) (hn : w.1 = N0) (hgs : g.1 300 = some (0, n, s)) (hcn : 6 * c + 5 < n) (hn3 : n ≤ 3072) (hri : HRi g) (htx : HTx g) (hu : uc ≤ 5000) (hs : us ≤ 130000) (go : GoT g d w c (uc + 5) (us + 30)) : LX g d W uc us 1731 (loL c l5 l6 l7) [] := by
  obtain ⟨o, F, A, L, m, f, RA, RB, np, nm, nc, nt, ns, nh, v, en, b, rfl, hK, hvc, hR, hI, hB⟩ := hG
  have hv : v + 1 < 2 ^ 30 := by omega
  refine x_al (kl_36 (j := 0) rfl) rfl ?_
  refine x_scr 1 (kl_36 (j := 1) rfl) (kl_36 (j := 2) rfl) (kl_36 (j := 3) rfl) (kl_36 (j := 4) rfl) (kl_36 (j := 5) rfl) rfl hgs hcn hn3 (by decide) ?_
  refine x_al (kl_36 (j := 6) rfl) rfl ?_
  refine x_inv (as := [.ref 0, .int (s (6 * c + 1)), .ref 1438]) (rest := []) (kl_36 (j := 7) rfl) rfl rfl (Nat.le_of_ble_eq_true rfl) (Or.inl hn) trivial (Nat.le_trans (Nat.add_le_add_right hu _) (Nat.le_of_ble_eq_true rfl)) (Nat.le_trans (Nat.add_le_add_right hs _) (Nat.le_of_ble_eq_true rfl)) (l_left (d := d + 36) hK hR hI hn) (fun v9 w9 hq => ?_) (fun E w9 hx => hx.elim)
  obtain ⟨rfl, F', A', L', o', np', nm', nc', nt', ns', nh', v', rfl, hv', hS, ho⟩ := hq
  refine x_is (lo' := loL c (some (.int _)) l6 l7) (kl_36 (j := 8) rfl) (Nat.le_of_ble_eq_true rfl) rfl ?_
  refine x_al (kl_36 (j := 9) rfl) rfl ?_
  refine x_scr 1 (kl_36 (j := 10) rfl) (kl_36 (j := 11) rfl) (kl_36 (j := 12) rfl) (kl_36 (j := 13) rfl) (kl_36 (j := 14) rfl) rfl hgs hcn hn3 (by decide) ?_
  rw [lW_r]
  refine x_inv (as := [.ref 1424, .int (s (6 * c + 1))]) (rest := []) (kl_36 (j := 15) rfl) rfl rfl (Nat.le_of_ble_eq_true rfl) (Or.inl hn) (rcv_at (rw_md (w := cW (aUp w 1438 (oE o')) F' A' L') hn) (by decide) (by decide)) (Nat.le_trans (Nat.add_le_add_right (Nat.add_le_add_right hu _) _) (Nat.le_of_ble_eq_true rfl)) (Nat.le_trans (Nat.add_le_add_right (Nat.add_le_add_right hs _) _) (Nat.le_of_ble_eq_true rfl)) (r_left (d := d + 36) (w := cW (aUp w 1438 (oE o')) F' A' L') hI.1.2.1.1 hI.m20 hI.1.2.2.1.1 hI.c16 hn) (fun v9 w9 hq => ?_) (fun E w9 hx => hx.elim)
  obtain ⟨rfl, m', RA', RB', rfl, hm, hk, hA⟩ := hq
  rw [← lW_r]
  exact tl_i kt_36 hn hm ho (by rw [Nat.add_assoc]; exact Nat.add_le_add_left (Nat.le_of_ble_eq_true rfl) _) (by rw [Nat.add_assoc]; exact Nat.add_le_add_left (Nat.le_of_ble_eq_true rfl) _) (by omega) (by omega) (gs_ca hB hvc hv' hS hk hA) go
theorem k_37 (hG : Gs w c W) (hn : w.1 = N0) (hgs : g.1 300 = some (0, n, s)) (hcn : 6 * c + 5 < n) (hn3 : n ≤ 3072) (hri : HRi g) (htx : HTx g) (hu : uc ≤ 5000) (hs : us ≤ 130000) (go : GoT g d w c (uc + 5) (us + 30)) : LX g d W uc us 1766 (loL c l5 l6 l7) [] := by
  obtain ⟨o, F, A, L, m, f, RA, RB, np, nm, nc, nt, ns, nh, v, en, b, rfl, hK, hvc, hR, hI, hB⟩ := hG
  have hv : v + 1 < 2 ^ 30 := by omega
  have hr : ∃ a u : Int64, okN (s (6 * c + 1)) nc = true → rarF f nc (cN (s (6 * c + 1))) 10 = some (a, u) := by
    obtain ⟨a, u, e, _⟩ := rar_nat (c := cN (s (6 * c + 1))) hI 10 (Nat.le_refl _)
    exact ⟨_, _, fun _ => e⟩
  obtain ⟨ra, ru, hr⟩ := hr
  refine x_al (kl_37 (j := 0) rfl) rfl ?_
  refine x_scr 1 (kl_37 (j := 1) rfl) (kl_37 (j := 2) rfl) (kl_37 (j := 3) rfl) (kl_37 (j := 4) rfl) (kl_37 (j := 5) rfl) rfl hgs hcn hn3 (by decide) ?_
  refine x_scr 2 (kl_37 (j := 6) rfl) (kl_37 (j := 7) rfl) (kl_37 (j := 8) rfl) (kl_37 (j := 9) rfl) (kl_37 (j := 10) rfl) rfl hgs hcn hn3 (by decide) ?_
  refine x_b01 (kl_37 (j := 11) rfl) (kl_37 (j := 12) rfl) (kl_37 (j := 13) rfl) (kl_37 (j := 14) rfl) rfl ?_
  refine x_al (kl_37 (j := 15) rfl) rfl ?_
  refine x_inv (as := [.ref 0, .int (s (6 * c + 1)), .int (bI (decide (¬ (s (6 * c + 2)) = 0))), .ref 1438]) (rest := []) (kl_37 (j := 16) rfl) rfl rfl (Nat.le_of_ble_eq_true rfl) (Or.inl hn) trivial (Nat.le_trans (Nat.add_le_add_right hu _) (Nat.le_of_ble_eq_true rfl)) (Nat.le_trans (Nat.add_le_add_right hs _) (Nat.le_of_ble_eq_true rfl)) (l_rare (d := d + 35) hK hR hI hr hn) (fun v9 w9 hq => ?_) (fun E w9 hx => hx.elim)
  obtain ⟨rfl, F', A', L', o', np', nm', nc', nt', ns', nh', v', rfl, hv', hS, ho⟩ := hq
  refine x_is (lo' := loL c (some (.int _)) l6 l7) (kl_37 (j := 17) rfl) (Nat.le_of_ble_eq_true rfl) rfl ?_
  refine x_al (kl_37 (j := 18) rfl) rfl ?_
  refine x_scr 1 (kl_37 (j := 19) rfl) (kl_37 (j := 20) rfl) (kl_37 (j := 21) rfl) (kl_37 (j := 22) rfl) (kl_37 (j := 23) rfl) rfl hgs hcn hn3 (by decide) ?_
  refine x_scr 2 (kl_37 (j := 24) rfl) (kl_37 (j := 25) rfl) (kl_37 (j := 26) rfl) (kl_37 (j := 27) rfl) (kl_37 (j := 28) rfl) rfl hgs hcn hn3 (by decide) ?_
  refine x_b01 (kl_37 (j := 29) rfl) (kl_37 (j := 30) rfl) (kl_37 (j := 31) rfl) (kl_37 (j := 32) rfl) rfl ?_
  rw [lW_r]
  refine x_inv (as := [.ref 1424, .int (s (6 * c + 1)), .int (bI (decide (¬ (s (6 * c + 2)) = 0)))]) (rest := []) (kl_37 (j := 33) rfl) rfl rfl (Nat.le_of_ble_eq_true rfl) (Or.inl hn) (rcv_at (rw_md (w := cW (aUp w 1438 (oE o')) F' A' L') hn) (by decide) (by decide)) (Nat.le_trans (Nat.add_le_add_right (Nat.add_le_add_right hu _) _) (Nat.le_of_ble_eq_true rfl)) (Nat.le_trans (Nat.add_le_add_right (Nat.add_le_add_right hs _) _) (Nat.le_of_ble_eq_true rfl)) (r_rare (d := d + 30) (w := cW (aUp w 1438 (oE o')) F' A' L') hI.wf hr hn) (fun v9 w9 hq => ?_) (fun E w9 hx => hx.elim)
  obtain ⟨rfl, m', RA', RB', rfl, hm, hk, hA⟩ := hq
  rw [← lW_r]
  exact tl_l kt_37 hn hm ho (by rw [Nat.add_assoc]; exact Nat.add_le_add_left (Nat.le_of_ble_eq_true rfl) _) (by rw [Nat.add_assoc]; exact Nat.add_le_add_left (Nat.le_of_ble_eq_true rfl) _) (by omega) (by omega) (gs_ca hB hvc hv' hS hk hA) go
theorem k_38 (hG : Gs w c W) (hn : w.1 = N0) (hgs : g.1 300 = some (0, n, s)) (hcn : 6 * c + 5 < n) (hn3 : n ≤ 3072) (hri : HRi g) (htx : HTx g) (hu : uc ≤ 5000) (hs : us ≤ 130000) (go : GoT g d w c (uc + 5) (us + 30)) : LX g d W uc us 1818 (loL c l5 l6 l7) [] := by
  obtain ⟨o, F, A, L, m, f, RA, RB, np, nm, nc, nt, ns, nh, v, en, b, rfl, hK, hvc, hR, hI, hB⟩ := hG
  have hv : v + 1 < 2 ^ 30 := by omega
  refine x_al (kl_38 (j := 0) rfl) rfl ?_
  refine x_scr 1 (kl_38 (j := 1) rfl) (kl_38 (j := 2) rfl) (kl_38 (j := 3) rfl) (kl_38 (j := 4) rfl) (kl_38 (j := 5) rfl) rfl hgs hcn hn3 (by decide) ?_
  refine x_scr 2 (kl_38 (j := 6) rfl) (kl_38 (j := 7) rfl) (kl_38 (j := 8) rfl) (kl_38 (j := 9) rfl) (kl_38 (j := 10) rfl) rfl hgs hcn hn3 (by decide) ?_
  refine x_al (kl_38 (j := 11) rfl) rfl ?_
  refine x_inv (as := [.ref 0, .int (s (6 * c + 1)), .int (s (6 * c + 2)), .ref 1438]) (rest := []) (kl_38 (j := 12) rfl) rfl rfl (Nat.le_of_ble_eq_true rfl) (Or.inl hn) trivial (Nat.le_trans (Nat.add_le_add_right hu _) (Nat.le_of_ble_eq_true rfl)) (Nat.le_trans (Nat.add_le_add_right hs _) (Nat.le_of_ble_eq_true rfl)) (l_tear (d := d + 36) hK hR hI hn) (fun v9 w9 hq => ?_) (fun E w9 hx => hx.elim)
  obtain ⟨rfl, F', A', L', o', np', nm', nc', nt', ns', nh', v', rfl, hv', hS, ho⟩ := hq
  refine x_is (lo' := loL c (some (.int _)) l6 l7) (kl_38 (j := 13) rfl) (Nat.le_of_ble_eq_true rfl) rfl ?_
  refine x_al (kl_38 (j := 14) rfl) rfl ?_
  refine x_scr 1 (kl_38 (j := 15) rfl) (kl_38 (j := 16) rfl) (kl_38 (j := 17) rfl) (kl_38 (j := 18) rfl) (kl_38 (j := 19) rfl) rfl hgs hcn hn3 (by decide) ?_
  refine x_scr 2 (kl_38 (j := 20) rfl) (kl_38 (j := 21) rfl) (kl_38 (j := 22) rfl) (kl_38 (j := 23) rfl) (kl_38 (j := 24) rfl) rfl hgs hcn hn3 (by decide) ?_
  rw [lW_r]
  refine x_inv (as := [.ref 1424, .int (s (6 * c + 1)), .int (s (6 * c + 2))]) (rest := []) (kl_38 (j := 25) rfl) rfl rfl (Nat.le_of_ble_eq_true rfl) (Or.inl hn) (rcv_at (rw_md (w := cW (aUp w 1438 (oE o')) F' A' L') hn) (by decide) (by decide)) (Nat.le_trans (Nat.add_le_add_right (Nat.add_le_add_right hu _) _) (Nat.le_of_ble_eq_true rfl)) (Nat.le_trans (Nat.add_le_add_right (Nat.add_le_add_right hs _) _) (Nat.le_of_ble_eq_true rfl)) (r_tear (d := d + 38) (w := cW (aUp w 1438 (oE o')) F' A' L') hI.1.2.2.2.2.2.1 hI.h200 hn) (fun v9 w9 hq => ?_) (fun E w9 hx => hx.elim)
  obtain ⟨rfl, m', RA', RB', rfl, hm, hk, hA⟩ := hq
  rw [← lW_r]
  exact tl_i kt_38 hn hm ho (by rw [Nat.add_assoc]; exact Nat.add_le_add_left (Nat.le_of_ble_eq_true rfl) _) (by rw [Nat.add_assoc]; exact Nat.add_le_add_left (Nat.le_of_ble_eq_true rfl) _) (by omega) (by omega) (gs_ca hB hvc hv' hS hk hA) go
theorem k_39 (hG : Gs w c W) (hn : w.1 = N0) (hgs : g.1 300 = some (0, n, s)) (hcn : 6 * c + 5 < n) (hn3 : n ≤ 3072) (hri : HRi g) (htx : HTx g) (hu : uc ≤ 5000) (hs : us ≤ 130000) (go : GoT g d w c (uc + 5) (us + 30)) : LX g d W uc us 1863 (loL c l5 l6 l7) [] := by
  obtain ⟨o, F, A, L, m, f, RA, RB, np, nm, nc, nt, ns, nh, v, en, b, rfl, hK, hvc, hR, hI, hB⟩ := hG
  have hv : v + 1 < 2 ^ 30 := by omega
  have hB2 := hB
  obtain ⟨⟨b1, b2, b3, b4⟩, b5, b6, b7⟩ := hB2
  refine x_al (kl_39 (j := 0) rfl) rfl ?_
  refine x_inv (as := [.ref 0]) (rest := []) (kl_39 (j := 1) rfl) rfl rfl (Nat.le_of_ble_eq_true rfl) (Or.inl hn) (rcv_at (cw_fs (w := rW (aUp w 1438 (oE o)) m f RA RB) sp_0 hn) (by decide) (by decide)) (Nat.le_trans (Nat.add_le_add_right hu _) (Nat.le_of_ble_eq_true rfl)) (Nat.le_trans (Nat.add_le_add_right hs _) (Nat.le_of_ble_eq_true rfl)) (c_check (d := d + 37) (w := rW (aUp w 1438 (oE o)) m f RA RB) hK hR hI hn) (fun v9 w9 hq => ?_) (fun E w9 hx => hx.2.elim (fun h => absurd h.1 (by decide)) (fun h => absurd h.1 (by decide)))
  obtain ⟨_, rfl, F', A', L', np', nm', nc', nt', ns', nh', v', rfl, hv', hS⟩ := hq
  rw [cw_rw]
  refine x_al (kl_39 (j := 2) rfl) rfl ?_
  refine x_inv (as := [.ref 1424]) (rest := [.int _]) (kl_39 (j := 3) rfl) rfl rfl (Nat.le_of_ble_eq_true rfl) (Or.inl hn) (rcv_at (rw_md (w := cW (aUp w 1438 (oE o)) F' A' L') hn) (by decide) (by decide)) (Nat.le_trans (Nat.add_le_add_right (Nat.add_le_add_right hu _) _) (Nat.le_of_ble_eq_true rfl)) (Nat.le_trans (Nat.add_le_add_right (Nat.add_le_add_right hs _) _) (Nat.le_of_ble_eq_true rfl)) (r_check (d := d + 38) (w := cW (aUp w 1438 (oE o)) F' A' L') hI.1.2.2.2.2.2.1 hI.h200 hn) (fun v9 w9 hq => ?_) (fun E w9 hx => hx.elim)
  obtain ⟨rfl, m', RA', RB', rfl, hm, hk, hA⟩ := hq
  rw [← lW_r]
  exact tl_d kt_39 (by rw [Nat.add_assoc]; exact Nat.add_le_add_left (Nat.le_of_ble_eq_true rfl) _) (by rw [Nat.add_assoc]; exact Nat.add_le_add_left (Nat.le_of_ble_eq_true rfl) _) (gs_ca hB hvc hv' hS hk hA) go
theorem k_40 (hG : Gs w c W) (hn : w.1 = N0) (hgs : g.1 300 = some (0, n, s)) (hcn : 6 * c + 5 < n) (hn3 : n ≤ 3072) (hri : HRi g) (htx : HTx g) (hu : uc ≤ 5000) (hs : us ≤ 130000) (go : GoT g d w c (uc + 5) (us + 30)) : LX g d W uc us 1870 (loL c l5 l6 l7) [] := by
  obtain ⟨o, F, A, L, m, f, RA, RB, np, nm, nc, nt, ns, nh, v, en, b, rfl, hK, hvc, hR, hI, hB⟩ := hG
  have hv : v + 1 < 2 ^ 30 := by omega
  have hB2 := hB
  obtain ⟨⟨b1, b2, b3, b4⟩, b5, b6, b7⟩ := hB2
  refine x_al (kl_40 (j := 0) rfl) rfl ?_
  refine x_inv (as := [.ref 0]) (rest := []) (kl_40 (j := 1) rfl) rfl rfl (Nat.le_of_ble_eq_true rfl) (Or.inl hn) (rcv_at (cw_fs (w := rW (aUp w 1438 (oE o)) m f RA RB) sp_0 hn) (by decide) (by decide)) (Nat.le_trans (Nat.add_le_add_right hu _) (Nat.le_of_ble_eq_true rfl)) (Nat.le_trans (Nat.add_le_add_right hs _) (Nat.le_of_ble_eq_true rfl)) (c_image (d := d + 35) (w := rW (aUp w 1438 (oE o)) m f RA RB) hR hI b6.1 hn) (fun v9 w9 hq => ?_) (fun E w9 hx => hx.elim)
  obtain ⟨rfl, F', A', rfl, i1, i2, i3⟩ := hq
  rw [cw_rw]
  refine x_al (kl_40 (j := 2) rfl) rfl ?_
  refine x_inv (as := [.ref 1424]) (rest := []) (kl_40 (j := 3) rfl) rfl rfl (Nat.le_of_ble_eq_true rfl) (Or.inl hn) (rcv_at (rw_md (w := cW (aUp w 1438 (oE o)) F' A' L) hn) (by decide) (by decide)) (Nat.le_trans (Nat.add_le_add_right (Nat.add_le_add_right hu _) _) (Nat.le_of_ble_eq_true rfl)) (Nat.le_trans (Nat.add_le_add_right (Nat.add_le_add_right hs _) _) (Nat.le_of_ble_eq_true rfl)) (r_image (d := d + 40) (w := cW (aUp w 1438 (oE o)) F' A' L) hn) (fun v9 w9 hq => ?_) (fun E w9 hx => hx.elim)
  obtain ⟨rfl, RA', rfl, rfl⟩ := hq
  rw [← lW_r]
  refine x_go (kl_40 (j := 4) rfl) ?_
  have e26 : udA RA 1426 (cpyI f (RA 1426) 21326) 1426 = cpyI f (RA 1426) 21326 := udA_t
  have ec : ∀ i, i < 21326 → cpyI f (RA 1426) 21326 i = f i := fun i hi => by rw [cpyI_at, if_pos hi]
  have fr : ∀ q, q ≠ 0 → (q < 701 ∨ 1396 ≤ q) → F' q = F q ∧ A' q = A q := i3
  refine go _ _ _ _ _ _ ⟨o, F', A', L, _, f, _, RB, np, nm, nc, nt, ns, nh, v, en, b, rfl, hK.keepC (by rw [(fr 1396 (by omega) (by omega)).1]) (fr 1404 (by omega) (by omega)).2, by omega, hR.keep hI (fun q h1 h2 => fr q (by omega) (by omega)), hI, ⟨⟨by rw [(fr 1 (by omega) (by omega)).1]; exact b1, (upd_ne (by decide)).trans ((upd_ne (by decide)).trans b2), b3, by rw [udA_ne (by decide), (fr 2 (by omega) (by omega)).2]; exact b4⟩, ?_, ⟨i1.2.2.2.2.2.1, Or.inr ⟨i2, upd_at, np, nm, nc, nt, ns, nh, by rw [e26]; exact RS_b hI ec i1, by rw [e26]; exact IV_b hI ec⟩⟩, b7.keep (fr 1409 (by omega) (by omega)).1⟩⟩ (by rw [Nat.add_assoc]; exact Nat.add_le_add_left (Nat.le_of_ble_eq_true rfl) _) (by rw [Nat.add_assoc]; exact Nat.add_le_add_left (Nat.le_of_ble_eq_true rfl) _)
  rw [(fr 1 (by omega) (by omega)).1, upd_ne (by decide), upd_ne (by decide)]
  exact b5
theorem k_41 (hG : Gs w c W) (hn : w.1 = N0) (hgs : g.1 300 = some (0, n, s)) (hcn : 6 * c + 5 < n) (hn3 : n ≤ 3072) (hri : HRi g) (htx : HTx g) (hu : uc ≤ 5000) (hs : us ≤ 130000) (go : GoT g d w c (uc + 5) (us + 30)) : LX g d W uc us 1875 (loL c l5 l6 l7) [] := by
  obtain ⟨o, F, A, L, m, f, RA, RB, np, nm, nc, nt, ns, nh, v, en, b, rfl, hK, hvc, hR, hI, hB⟩ := hG
  have hv : v + 1 < 2 ^ 30 := by omega
  have hB2 := hB
  obtain ⟨⟨b1, b2, b3, b4⟩, b5, b6, b7⟩ := hB2
  have hno : F 11 1 = 0 := hR.2.2.2.2.2.1
  rcases b6.2 with ⟨i1, i2⟩ | ⟨i1, i2, np', nm', nc', nt', ns', nh', iR, iI⟩
  · skip
    refine x_al (kl_41 (j := 0) rfl) rfl ?_
    refine x_inv (as := [.ref 0]) (rest := []) (kl_41 (j := 1) rfl) rfl rfl (Nat.le_of_ble_eq_true rfl) (Or.inl hn) (rcv_at (cw_fs (w := rW (aUp w 1438 (oE o)) m f RA RB) sp_0 hn) (by decide) (by decide)) (Nat.le_trans (Nat.add_le_add_right hu _) (Nat.le_of_ble_eq_true rfl)) (Nat.le_trans (Nat.add_le_add_right hs _) (Nat.le_of_ble_eq_true rfl)) (c_back (d := d + 35) (np' := 0) (nm' := 0) (nc' := 0) (nt' := 0) (ns' := 0) (nh' := 0) (f' := f) (w := rW (aUp w 1438 (oE o)) m f RA RB) hK hv hno (Or.inl i1) hn) (fun v9 w9 hq => ?_) (fun E w9 hx => hx.elim)
    rcases hq with ⟨_, rfl, rfl⟩ | ⟨h, _⟩
    rotate_left
    · exact absurd (i1.symm.trans h) (by decide)
    rw [cw_rw]
    refine x_al (kl_41 (j := 2) rfl) rfl ?_
    refine x_inv (as := [.ref 1424]) (rest := [.int _]) (kl_41 (j := 3) rfl) rfl rfl (Nat.le_of_ble_eq_true rfl) (Or.inl hn) (rcv_at (rw_md (w := cW (aUp w 1438 (oE o)) F A L) hn) (by decide) (by decide)) (Nat.le_trans (Nat.add_le_add_right (Nat.add_le_add_right hu _) _) (Nat.le_of_ble_eq_true rfl)) (Nat.le_trans (Nat.add_le_add_right (Nat.add_le_add_right hs _) _) (Nat.le_of_ble_eq_true rfl)) (r_back (d := d + 40) (w := cW (aUp w 1438 (oE o)) F A L) hn) (fun v9 w9 hq => ?_) (fun E w9 hx => hx.elim)
    rcases hq with ⟨_, rfl, rfl⟩ | ⟨h, _⟩
    rotate_left
    · exact absurd i2 h
    rw [← lW_r]
    exact tl_d kt_41 (by rw [Nat.add_assoc]; exact Nat.add_le_add_left (Nat.le_of_ble_eq_true rfl) _) (by rw [Nat.add_assoc]; exact Nat.add_le_add_left (Nat.le_of_ble_eq_true rfl) _) (gs_same hB hvc hK hR hI) go
  · skip
    refine x_al (kl_41 (j := 0) rfl) rfl ?_
    refine x_inv (as := [.ref 0]) (rest := []) (kl_41 (j := 1) rfl) rfl rfl (Nat.le_of_ble_eq_true rfl) (Or.inl hn) (rcv_at (cw_fs (w := rW (aUp w 1438 (oE o)) m f RA RB) sp_0 hn) (by decide) (by decide)) (Nat.le_trans (Nat.add_le_add_right hu _) (Nat.le_of_ble_eq_true rfl)) (Nat.le_trans (Nat.add_le_add_right hs _) (Nat.le_of_ble_eq_true rfl)) (c_back (d := d + 35) (w := rW (aUp w 1438 (oE o)) m f RA RB) hK hv hno (Or.inr ⟨i1, iR, iI⟩) hn) (fun v9 w9 hq => ?_) (fun E w9 hx => hx.elim)
    rcases hq with ⟨h, _⟩ | ⟨_, rfl, F', A', rfl, r1, r2, r3⟩
    · exact absurd (i1.symm.trans h) (by decide)
    rw [cw_rw]
    refine x_al (kl_41 (j := 2) rfl) rfl ?_
    refine x_inv (as := [.ref 1424]) (rest := [.int _]) (kl_41 (j := 3) rfl) rfl rfl (Nat.le_of_ble_eq_true rfl) (Or.inl hn) (rcv_at (rw_md (w := cW (aUp w 1438 (oE o)) F' A' L) hn) (by decide) (by decide)) (Nat.le_trans (Nat.add_le_add_right (Nat.add_le_add_right hu _) _) (Nat.le_of_ble_eq_true rfl)) (Nat.le_trans (Nat.add_le_add_right (Nat.add_le_add_right hs _) _) (Nat.le_of_ble_eq_true rfl)) (r_back (d := d + 40) (w := cW (aUp w 1438 (oE o)) F' A' L) hn) (fun v9 w9 hq => ?_) (fun E w9 hx => hx.elim)
    rcases hq with ⟨h, _⟩ | ⟨_, rfl, rfl⟩
    · exact absurd (i2.symm.trans h) (by decide)
    rw [← lW_r]
    have ec : ∀ i, i < 21326 → cpyI (RA 1426) f 21326 i = RA 1426 i := fun i hi => by rw [cpyI_at, if_pos hi]
    exact tl_d kt_41 (by rw [Nat.add_assoc]; exact Nat.add_le_add_left (Nat.le_of_ble_eq_true rfl) _) (by rw [Nat.add_assoc]; exact Nat.add_le_add_left (Nat.le_of_ble_eq_true rfl) _) ⟨o, F', A', L, _, _, RA, RB, np', nm', nc', nt', ns', nh', v + 1, en, b, rfl, hK.next hv r2 (r3 1404 (by omega) (by omega)).2, by omega, RS_b iI ec r1, IV_b iI ec, hB.keep (fun q hq => r3 q (by omega) (by omega)) (upd_ne (by decide)) (upd_ne (by decide)) (upd_ne (by decide)) fun _ _ => rfl⟩ go
theorem k_42 (hG : Gs w c W) (hn : w.1 = N0) (hgs : g.1 300 = some (0, n, s)) (hcn : 6 * c + 5 < n) (hn3 : n ≤ 3072) (hri : HRi g) (htx : HTx g) (hu : uc ≤ 5000) (hs : us ≤ 130000) (go : GoT g d w c (uc + 5) (us + 30)) : LX g d W uc us 1882 (loL c l5 l6 l7) [] := by
  obtain ⟨o, F, A, L, m, f, RA, RB, np, nm, nc, nt, ns, nh, v, en, b, rfl, hK, hvc, hR, hI, hB⟩ := hG
  have hv : v + 1 < 2 ^ 30 := by omega
  have hB2 := hB
  obtain ⟨⟨b1, b2, b3, b4⟩, b5, b6, b7⟩ := hB2
  refine x_al (kl_42 (j := 0) rfl) rfl ?_
  refine x_scr 1 (kl_42 (j := 1) rfl) (kl_42 (j := 2) rfl) (kl_42 (j := 3) rfl) (kl_42 (j := 4) rfl) (kl_42 (j := 5) rfl) rfl hgs hcn hn3 (by decide) ?_
  refine x_inv (as := [.ref 0, .int (s (6 * c + 1))]) (rest := []) (kl_42 (j := 6) rfl) rfl rfl (Nat.le_of_ble_eq_true rfl) (Or.inl hn) (rcv_at (cw_fs (w := rW (aUp w 1438 (oE o)) m f RA RB) sp_0 hn) (by decide) (by decide)) (Nat.le_trans (Nat.add_le_add_right hu _) (Nat.le_of_ble_eq_true rfl)) (Nat.le_trans (Nat.add_le_add_right hs _) (Nat.le_of_ble_eq_true rfl)) (c_count (d := d + 37) (w := rW (aUp w 1438 (oE o)) m f RA RB) hK hR hI hn) (fun v9 w9 hq => ?_) (fun E w9 hx => hx.2.elim (fun h => absurd h.1 (by decide)) (fun h => absurd h.1 (by decide)))
  obtain ⟨_, rfl, F', A', L', np', nm', nc', nt', ns', nh', v', rfl, hv', hS⟩ := hq
  rw [cw_rw]
  refine x_al (kl_42 (j := 7) rfl) rfl ?_
  refine x_scr 1 (kl_42 (j := 8) rfl) (kl_42 (j := 9) rfl) (kl_42 (j := 10) rfl) (kl_42 (j := 11) rfl) (kl_42 (j := 12) rfl) rfl hgs hcn hn3 (by decide) ?_
  refine x_inv (as := [.ref 1424, .int (s (6 * c + 1))]) (rest := [.int _]) (kl_42 (j := 13) rfl) rfl rfl (Nat.le_of_ble_eq_true rfl) (Or.inl hn) (rcv_at (rw_md (w := cW (aUp w 1438 (oE o)) F' A' L') hn) (by decide) (by decide)) (Nat.le_trans (Nat.add_le_add_right (Nat.add_le_add_right hu _) _) (Nat.le_of_ble_eq_true rfl)) (Nat.le_trans (Nat.add_le_add_right (Nat.add_le_add_right hs _) _) (Nat.le_of_ble_eq_true rfl)) (r_count (d := d + 37) (w := cW (aUp w 1438 (oE o)) F' A' L') (hR.wt hI) hI.1.2.2.1.1 hI.c16 hn) (fun v9 w9 hq => ?_) (fun E w9 hx => hx.elim)
  obtain ⟨rfl, m', RA', RB', rfl, hm, hk, hA⟩ := hq
  rw [← lW_r]
  exact tl_d kt_42 (by rw [Nat.add_assoc]; exact Nat.add_le_add_left (Nat.le_of_ble_eq_true rfl) _) (by rw [Nat.add_assoc]; exact Nat.add_le_add_left (Nat.le_of_ble_eq_true rfl) _) (gs_ca hB hvc hv' hS hk hA) go
end CASES
