/-! the law's loop; cw_ -/
theorem kl_h {j : Nat} {x : aI} (h : ([aO 0 4 0, aO 0 0 1, aO 22 0 0, aC 1 (.int 6), aO 4 0 1, aO 16 1901 4, aO 0 0 1, aO 0 4 0, aO 23 0 0, aC 1 (.int 63), aO 4 0 3, aT 1899 0 [25, 82, 99, 124, 131, 176, 221, 256, 319, 354, 429, 512, 587, 609, 664, 699, 757, 815, 860, 913, 948, 993, 1028, 1083, 1138, 1213, 1288, 1356, 1411, 1456, 1491, 1539, 1584, 1606, 1641, 1686, 1731, 1766, 1818, 1863, 1870, 1875, 1882]] : List aI)[j]? = some x) : k_L_law[13 + j]? = some x := segI (n := 12) (by decide +kernel) h
theorem kl_e {j : Nat} {x : aI} (h : ([aN 4 6, aO 17 13 0, aC 0 (.int 1), aO 39 0 0] : List aI)[j]? = some x) : k_L_law[1899 + j]? = some x := segI (n := 4) (by decide +kernel) h
theorem law_no {n c : Nat} (hn : n ≤ 3072) (hc : c ≤ 600) (h : ¬ nI n - 6 < nI (6 * c)) : 6 * c + 5 < n := by
  rcases Nat.lt_or_ge n 6 with h6 | h6
  · exfalso
    apply h
    have h0 : nI n - 6 < 0 := by
      have : n = 0 ∨ n = 1 ∨ n = 2 ∨ n = 3 ∨ n = 4 ∨ n = 5 := by omega
      rcases this with rfl | rfl | rfl | rfl | rfl | rfl <;> decide
    have h1 : (0 : Int32) ≤ nI (6 * c) := nI_leC (a := 0) (Nat.zero_le _) (by omega)
    exact Int32.lt_of_lt_of_le h0 h1
  · rcases Nat.lt_or_ge (6 * c + 5) n with h7 | h7
    · exact h7
    · exfalso
      apply h
      have e : nI n - 6 = nI (n - 6) := by
        rw [show (6 : Int32) = nI 6 from rfl, nI_wrap (by omega), show (n + 4294967296 - 6) % 4294967296 = n - 6 by omega]
      rw [e]
      exact nI_lt (by omega) (by omega)
theorem Gs.up {w W : aW} {c : Nat} (h : Gs w c W) : Gs w (c + 1) W := by
  obtain ⟨o, F, A, L, m, f, RA, RB, np, nm, nc, nt, ns, nh, v, en, b, h1, h2, h3, h4⟩ := h
  exact ⟨o, F, A, L, m, f, RA, RB, np, nm, nc, nt, ns, nh, v, en, b, h1, h2, by omega, h4⟩
section LAW
variable {g : aG} {d : Nat} {w : aW} {n : Nat} {s : Nat → Int32}
theorem k_all {c uc us : Nat} {W : aW} {l5 l6 l7 : Option Value} (hG : Gs w c W) (hn : w.1 = N0) (hgs : g.1 300 = some (0, n, s)) (hcn : 6 * c + 5 < n) (hn3 : n ≤ 3072) (hri : HRi g) (htx : HTx g) (hu : uc ≤ 5000) (hs : us ≤ 130000) (go : GoT g d w c (uc + 5) (us + 30)) {j t : Nat} (h : ([25, 82, 99, 124, 131, 176, 221, 256, 319, 354, 429, 512, 587, 609, 664, 699, 757, 815, 860, 913, 948, 993, 1028, 1083, 1138, 1213, 1288, 1356, 1411, 1456, 1491, 1539, 1584, 1606, 1641, 1686, 1731, 1766, 1818, 1863, 1870, 1875, 1882] : List Nat)[j]? = some t) : LX g d W uc us t (loL c l5 l6 l7) [] := by
  have hm := List.mem_of_getElem? h
  simp only [List.mem_cons, List.not_mem_nil, or_false] at hm
  rcases hm with rfl | rfl | rfl | rfl | rfl | rfl | rfl | rfl | rfl | rfl | rfl | rfl | rfl | rfl | rfl | rfl | rfl | rfl | rfl | rfl | rfl | rfl | rfl | rfl | rfl | rfl | rfl | rfl | rfl | rfl | rfl | rfl | rfl | rfl | rfl | rfl | rfl | rfl | rfl | rfl | rfl | rfl | rfl
  · exact k_0 hG hn hgs hcn hn3 hri htx hu hs go
  · exact k_1 hG hn hgs hcn hn3 hri htx hu hs go
  · exact k_2 hG hn hgs hcn hn3 hri htx hu hs go
  · exact k_3 hG hn hgs hcn hn3 hri htx hu hs go
  · exact k_4 hG hn hgs hcn hn3 hri htx hu hs go
  · exact k_5 hG hn hgs hcn hn3 hri htx hu hs go
  · exact k_6 hG hn hgs hcn hn3 hri htx hu hs go
  · exact k_7 hG hn hgs hcn hn3 hri htx hu hs go
  · exact k_8 hG hn hgs hcn hn3 hri htx hu hs go
  · exact k_9 hG hn hgs hcn hn3 hri htx hu hs go
  · exact k_10 hG hn hgs hcn hn3 hri htx hu hs go
  · exact k_11 hG hn hgs hcn hn3 hri htx hu hs go
  · exact k_12 hG hn hgs hcn hn3 hri htx hu hs go
  · exact k_13 hG hn hgs hcn hn3 hri htx hu hs go
  · exact k_14 hG hn hgs hcn hn3 hri htx hu hs go
  · exact k_15 hG hn hgs hcn hn3 hri htx hu hs go
  · exact k_16 hG hn hgs hcn hn3 hri htx hu hs go
  · exact k_17 hG hn hgs hcn hn3 hri htx hu hs go
  · exact k_18 hG hn hgs hcn hn3 hri htx hu hs go
  · exact k_19 hG hn hgs hcn hn3 hri htx hu hs go
  · exact k_20 hG hn hgs hcn hn3 hri htx hu hs go
  · exact k_21 hG hn hgs hcn hn3 hri htx hu hs go
  · exact k_22 hG hn hgs hcn hn3 hri htx hu hs go
  · exact k_23 hG hn hgs hcn hn3 hri htx hu hs go
  · exact k_24 hG hn hgs hcn hn3 hri htx hu hs go
  · exact k_25 hG hn hgs hcn hn3 hri htx hu hs go
  · exact k_26 hG hn hgs hcn hn3 hri htx hu hs go
  · exact k_27 hG hn hgs hcn hn3 hri htx hu hs go
  · exact k_28 hG hn hgs hcn hn3 hri htx hu hs go
  · exact k_29 hG hn hgs hcn hn3 hri htx hu hs go
  · exact k_30 hG hn hgs hcn hn3 hri htx hu hs go
  · exact k_31 hG hn hgs hcn hn3 hri htx hu hs go
  · exact k_32 hG hn hgs hcn hn3 hri htx hu hs go
  · exact k_33 hG hn hgs hcn hn3 hri htx hu hs go
  · exact k_34 hG hn hgs hcn hn3 hri htx hu hs go
  · exact k_35 hG hn hgs hcn hn3 hri htx hu hs go
  · exact k_36 hG hn hgs hcn hn3 hri htx hu hs go
  · exact k_37 hG hn hgs hcn hn3 hri htx hu hs go
  · exact k_38 hG hn hgs hcn hn3 hri htx hu hs go
  · exact k_39 hG hn hgs hcn hn3 hri htx hu hs go
  · exact k_40 hG hn hgs hcn hn3 hri htx hu hs go
  · exact k_41 hG hn hgs hcn hn3 hri htx hu hs go
  · exact k_42 hG hn hgs hcn hn3 hri htx hu hs go
theorem law_head {c uc us : Nat} {W : aW} {l5 l6 l7 : Option Value} (hgs : g.1 300 = some (0, n, s)) (hn3 : n ≤ 3072) (hc : c ≤ 600) (hu : uc ≤ 601024) (hs : us ≤ 7293034) (go : 6 * c + 5 < n → ∀ j t : Nat, ([25, 82, 99, 124, 131, 176, 221, 256, 319, 354, 429, 512, 587, 609, 664, 699, 757, 815, 860, 913, 948, 993, 1028, 1083, 1138, 1213, 1288, 1356, 1411, 1456, 1491, 1539, 1584, 1606, 1641, 1686, 1731, 1766, 1818, 1863, 1870, 1875, 1882] : List Nat)[j]? = some t → LX g d W uc us t (loL c l5 l6 l7) []) (god : 6 * c + 5 < n → LX g d W uc us 1899 (loL c l5 l6 l7) []) : LX g d W uc us 13 (loL c l5 l6 l7) [] := by
  have ex : LX g d W uc us 1901 (loL c l5 l6 l7) [] := by
    refine x_c (kl_e (j := 2) rfl) ?_
    exact x_retz (kl_e (j := 3) rfl) hu hs rfl (by decide) rfl
  refine x_il (kl_h (j := 0) rfl) rfl ?_
  refine x_al (kl_h (j := 1) rfl) rfl ?_
  refine x_lenF (n := n) (f := s) (kl_h (j := 2) rfl) (Nat.le_add_right _ _) (by rw [Nat.add_sub_cancel_left]; exact hgs) ?_
  refine x_c (kl_h (j := 3) rfl) ?_
  refine x_sub (kl_h (j := 4) rfl) ?_
  refine x_icgt (kl_h (j := 5) rfl) (fun _ => ex) (fun h => ?_)
  have hcn := law_no hn3 hc h
  refine x_al (kl_h (j := 6) rfl) rfl ?_
  refine x_il (kl_h (j := 7) rfl) rfl ?_
  refine x_iaF (n := n) (f := s) (kl_h (j := 8) rfl) (Nat.le_add_right _ _) (by rw [Nat.add_sub_cancel_left]; exact hgs) (vp_in_nI (by omega) (by omega)) ?_
  refine x_c (kl_h (j := 9) rfl) ?_
  refine x_and (kl_h (j := 10) rfl) ?_
  refine x_sw (kl_h (j := 11) rfl) (fun _ => god hcn) (fun j t ht _ => go hcn j t ht)
theorem law_loop (hn : w.1 = N0) (hgs : g.1 300 = some (0, n, s)) (hn3 : n ≤ 3072) (hri : HRi g) (htx : HTx g) : ∀ k c W uc us l5 l6 l7, c + k = 513 → Gs w c W → uc ≤ 1500 + 5 * c → us ≤ 110000 + 30 * c → LX g d W uc us 13 (loL c l5 l6 l7) [] := by
  intro k
  induction k with
  | zero =>
    intro c W uc us l5 l6 l7 hc hG hu hs
    exact law_head hgs hn3 (by omega) (by omega) (by omega) (fun h => absurd h (by omega)) (fun h => absurd h (by omega))
  | succ k ih =>
    intro c W uc us l5 l6 l7 hc hG hu hs
    have go : GoT g d w c (uc + 5) (us + 30) := by
      intro W2 uc2 us2 m5 m6 m7 hG2 hu2 hs2
      refine x_inc (lo' := loL (c + 1) m5 m6 m7) (kl_e (j := 0) rfl) rfl (by rw [show nI (6 * c) + 6 = nI (6 * (c + 1)) from by rw [show 6 * (c + 1) = 6 * c + 6 by omega]; exact nI_add (6 * c) 6]; rfl) ?_
      refine x_go (kl_e (j := 1) rfl) ?_
      exact ih (c + 1) W2 uc2 us2 m5 m6 m7 (by omega) hG2 (by omega) (by omega)
    exact law_head hgs hn3 (by omega) (by omega) (by omega) (fun hcn j t ht => k_all hG hn hgs hcn hn3 hri htx (by omega) (by omega) go ht) (fun _ => go W uc us l5 l6 l7 hG.up (by omega) (by omega))
end LAW
