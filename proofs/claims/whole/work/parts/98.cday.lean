/-! proved marks, the day's work; cw_ -/
theorem sdF_c {f f' : Nat → Int32} {e k c i day : Int32} {n : Nat} (h : ∀ i, 10224 ≤ i → i < 10224 + 6 * n → f' i = f i) : sdF f' e k c i day n = sdF f e k c i day n := by
  unfold sdF
  refine acc_c n (fun r hr s => ?_)
  try dsimp only
  rw [h (10224 + 6 * r) (by omega) (by omega), h (10224 + 6 * r + 1) (by omega) (by omega), h (10224 + 6 * r + 2) (by omega) (by omega), h (10224 + 6 * r + 3) (by omega) (by omega), h (10224 + 6 * r + 4) (by omega) (by omega), h (10224 + 6 * r + 5) (by omega) (by omega)]
theorem prvP_c {f f' : Nat → Int32} {n ns k c i : Nat} {day : Int32} (hd : agD f f') (hW : WP f) (hk : k < 20) (hc : c < 16) (hi : i < 10) (hs : ns ≤ 200) (hf : cN (f (6607 + 26 * c + (6 + i))) < 60) : prvP f' n ns k c i day ↔ prvP f n ns k c i day := by
  have hnd : ∀ i, i ≠ 3 → (i < 7023 ∨ (10223 ≤ i ∧ i < 11424) ∨ 12825 ≤ i) → f' i = f i := fun i h1 h2 => hd i (fun h => by unfold dkC at h; omega)
  have hT : samT f f' := fun i hi => hnd i (by omega) (by omega)
  have e1 : ∀ e, sdF f' (nI e) (nI k) (nI c) (nI i) day ns = sdF f (nI e) (nI k) (nI c) (nI i) day ns := fun e => sdF_c (fun i h1 h2 => hnd i (by omega) (by omega))
  unfold prvP
  rw [hnd (6607 + 26 * c + (6 + i)) (by omega) (by omega), vM_c hd hW hk hf, lastF_c hT, bestT_c hT]
  have e2 : notN f' ns k c i day 6 = notN f ns k c i day 6 := cn_c 6 (fun e _ => by rw [e1 e])
  have e3 : sameN f' ns k c i day 6 = sameN f ns k c i day 6 := cn_c 6 (fun e _ => by rw [e1 e])
  rw [e2, e3]
theorem fin60 {f : Nat → Int32} {np nm nc nt ns nh : Nat} (hI : IV f np nm nc nt ns nh) {c j : Nat} (hc : c < nc) (hj : j < 10) : cN (f (6607 + 26 * c + (6 + j))) < 60 := by
  have h60 := hI.p60
  rcases ((hI.ca hc).2.2.2.1 j hj).1 with e | ⟨p, hp, e⟩
  · rw [e]; decide
  · rw [e, show cN (nI p) = p from nI_clamp (by omega)]; omega
theorem setB_c {f f' : Nat → Int32} {np nm nc nt ns nh k : Nat} (hI : IV f np nm nc nt ns nh) (hd : agD f f') (hk : k < 20) : cn (setB f' nt ns k) (10 * nc) = cn (setB f nt ns k) (10 * nc) := by
  have h16 := hI.c16
  have hnd : ∀ i, i ≠ 3 → i < 7023 → f' i = f i := fun i h1 h2 => hd i (fun h => by unfold dkC at h; omega)
  refine cn_c _ (fun x hx => ?_)
  unfold setB
  refine dec_congr ?_
  rw [hnd _ (by omega) (by omega), hnd 0 (by omega) (by omega), prvP_c hd hI.wp hk (by omega) (by omega) hI.s200 (fin60 hI (by omega) (by omega))]
/-- row r says that mark k is proved -/
def pvR (f : Nat → Int32) (nt ns k r : Nat) : Prop := f (10224 + 6 * r + 4) = 1 ∧ f (10224 + 6 * r + 1) = nI k ∧ f (6607 + 26 * cN (f (10224 + 6 * r + 2)) + 2) < 0 ∧ prvP f nt ns k (cN (f (10224 + 6 * r + 2))) (cN (f (10224 + 6 * r + 3))) (f 0)
theorem sdF_1 {f : Nat → Int32} {e k c i day : Int32} : ∀ n, sdF f e k c i day n = 1 → ∃ r, r < n ∧ f (10224 + 6 * r + 4) = 1 ∧ f (10224 + 6 * r + 1) = k ∧ f (10224 + 6 * r + 2) = c ∧ f (10224 + 6 * r + 3) = i := by
  intro n
  induction n with
  | zero => intro h; exact absurd (show (-1 : Int32) = 1 from h) (by decide)
  | succ n ih =>
    intro h
    rw [sdF_s] at h
    by_cases hc : f (10224 + 6 * n) = e ∧ f (10224 + 6 * n + 1) = k ∧ f (10224 + 6 * n + 2) = c ∧ f (10224 + 6 * n + 3) = i ∧ f (10224 + 6 * n + 5) ≤ day
    · rw [if_pos hc] at h
      exact ⟨n, by omega, h, hc.2.1, hc.2.2.1, hc.2.2.2.1⟩
    · rw [if_neg hc] at h
      obtain ⟨r, hr, h2⟩ := ih h
      exact ⟨r, by omega, h2⟩
theorem lastF_1 {F A : Nat → Nat → Int32} {q : Nat} {f : Nat → Int32} {o : Option Nat} (hT : TxO F A q f o) : ∃ v, 1 ≤ v ∧ v ≤ 9999 ∧ lastF f o 2 1 = nI v := by
  cases o with
  | none => exact ⟨1, by omega, by omega, rfl⟩
  | some t =>
    obtain ⟨r, hT⟩ := hT
    rw [lastF_s, hT.rul]
    obtain ⟨N, hN, hR, _⟩ := hT.2.2.2.2.2
    have : ∀ k, k ≤ r → ∃ v, 1 ≤ v ∧ v ≤ 9999 ∧ acc (fun k v => if f (rl t k) = 2 then f (rl t k + 1) else v) 1 k = nI v := by
      intro k
      induction k with
      | zero => intro _; exact ⟨1, by omega, by omega, rfl⟩
      | succ k ih =>
        intro hk
        rw [acc_s]
        obtain ⟨_, ⟨v, hv, ev, h1⟩, _⟩ := hR k (by omega)
        by_cases e : f (rl t k) = 2
        · rw [if_pos e]; exact ⟨v, h1 e, hv, ev⟩
        · rw [if_neg e]; exact ih (by omega)
    exact this r (Nat.le_refl _)
theorem pv_iff {F A : Nat → Nat → Int32} {f : Nat → Int32} {np nm nc nt ns nh k : Nat} (hR : RS F A f 6 np nm nc nt ns nh) (hI : IV f np nm nc nt ns nh) : (∃ r, r < ns ∧ pvR f nt ns k r) ↔ ¬ cn (setB f nt ns k) (10 * nc) = 0 := by
  constructor
  · rintro ⟨r, hr, h1, h2, h3, h4⟩ h0
    obtain ⟨_, _, ⟨c, hc, ec⟩, ⟨j, hj, ej⟩, _⟩ := hI.sa hr
    have h16 := hI.c16
    have ec2 : cN (f (10224 + 6 * r + 2)) = c := by rw [ec]; exact nI_clamp (by omega)
    have ej2 : cN (f (10224 + 6 * r + 3)) = j := by rw [ej]; exact nI_clamp (by omega)
    rw [ec2] at h3 h4
    rw [ej2] at h4
    have := cn_0 h0 (j := 10 * c + j) (by omega)
    unfold setB at this
    rw [decide_eq_false_iff_not, show (10 * c + j) / 10 = c by omega, show (10 * c + j) % 10 = j by omega] at this
    exact this ⟨h3, h4⟩
  · intro h
    obtain ⟨x, hx, hb⟩ := cn_ex h
    unfold setB at hb
    rw [decide_eq_true_iff] at hb
    obtain ⟨v, hv1, hv2, ev⟩ := lastF_1 (hR.txo (f 0))
    have hs := hb.2.2.2.1
    rw [ev] at hs
    have hs6 : sameN f ns k (x / 10) (x % 10) (f 0) 6 ≤ 6 := cn_le _ _
    have hs := (nI_leI (by omega) (by omega)).mp hs
    obtain ⟨e, he, hes⟩ := cn_ex (P := fun e => sdF f (nI e) (nI k) (nI (x / 10)) (nI (x % 10)) (f 0) ns == 1) (r := 6) (fun h => by
      have : sameN f ns k (x / 10) (x % 10) (f 0) 6 = 0 := h
      omega)
    obtain ⟨r, hr, a1, a2, a3, a4⟩ := sdF_1 ns (by simpa using hes)
    have h16 := hI.c16
    have ec : cN (f (10224 + 6 * r + 2)) = x / 10 := by rw [a3]; exact nI_clamp (by omega)
    have ej : cN (f (10224 + 6 * r + 3)) = x % 10 := by rw [a4]; exact nI_clamp (by omega)
    exact ⟨r, hr, a1, a2, by rw [ec]; exact hb.1, by rw [ec, ej]; exact hb.2⟩
section CALLS
variable {g : aG} {d : Nat} {w : aW} {F A : Nat → Nat → Int32} {L : Nat → Int64} {f : Nat → Int32} {np nm nc nt ns nh v : Nat}
/-- the bits of the marks that are proved -/
def pvB (f : Nat → Int32) (nt ns nc : Nat) (x : Int32) : Prop := ∀ k, k < 20 → bt x k = decide (¬ cn (setB f nt ns k) (10 * nc) = 0)
theorem c_provedMarks (hK : KI F A f np nm v) (hR : RS F A f 6 np nm nc nt ns nh) (hI : IV f np nm nc nt ns nh) (hn : w.1 = N0) : Ev g (d + 15) 153 [.ref 0] (cW w F A L) (SxQ w F A f np nm v (fun r F' A' L' => ∃ x, r = some (.int x) ∧ pvB f nt ns nc x)) noX := by
  have h200 := hI.s200
  have h20 := hI.m20
  have h16 := hI.c16
  have loop : ∀ r, r ≤ ns → ∀ x F1 A1 L1 l4 l5, (∀ q, (q < 1396 ∨ q = 1409 ∨ q = 1423) → F1 q = F q ∧ A1 q = A q) → KI F1 A1 f np nm v → (∀ k, k < 20 → (bt x k = true ↔ ∃ r', r' < r ∧ pvR f nt ns k r')) → EX g mbOf (Ev g (d + 14)) (infoOf 153) k_X10_provedMarks (SxQ w F A f np nm v (fun r F' A' L' => ∃ x, r = some (.int x) ∧ pvB f nt ns nc x)) noX w.1 (cW w F1 A1 L1) 0 0 8 [some (.ref 0), some (.int x), some (.ref 17), some (.int (nI r)), l4, l5] [] := by
    refine downN ns fun r hr ih => ?_
    intro x F1 A1 L1 l4 l5 hs hK1 hx
    have hR1 := hR.keep hI (fun q h1 h2 => hs q (by omega))
    refine x_il rfl rfl ?_
    refine x_al rfl rfl ?_
    refine x_getC rfl hn (by with_reducible exact tb_0 (by first | assumption | exact tbS | exact tbH)) (by exact rfl) ?_
    rw [show F1 17 3 = nI ns from hR1.sa.1]
    refine x_icgeN rfl (by omega) (fun c0 => ?_) (fun c0 => ?_)
    · refine x_il rfl rfl ?_
      refine x_reti rfl (Nat.le_of_ble_eq_true rfl) (Nat.le_of_ble_eq_true rfl) rfl ?_
      obtain rfl : r = ns := by omega
      refine ⟨F1, A1, L1, rfl, hs, hK1, x, rfl, fun k hk => ?_⟩
      have h1 := (hx k hk).trans (pv_iff hR hI)
      cases hb : bt x k with
      | true => rw [decide_eq_true (h1.mp hb)]
      | false =>
        rw [decide_eq_false (fun h => by rw [h1.mpr h] at hb; cases hb)]
    refine x_al rfl rfl ?_
    refine x_il rfl rfl ?_
    refine x_c rfl ?_
    have ih := ih c0
    obtain ⟨_, ⟨k0, hk0, ek⟩, ⟨c1, hc1, ec⟩, ⟨j1, hj1, ej⟩, ⟨v1, hv1, ev⟩, _⟩ := hI.sa c0
    have ec2 : cN (f (10224 + 6 * r + 2)) = c1 := by rw [ec]; exact nI_clamp (by omega)
    have ej2 : cN (f (10224 + 6 * r + 3)) = j1 := by rw [ej]; exact nI_clamp (by omega)
    have next : ∀ x' F2 A2 L2 l4 l5, (∀ q, (q < 1396 ∨ q = 1409 ∨ q = 1423) → F2 q = F q ∧ A2 q = A q) → KI F2 A2 f np nm v → (∀ k, k < 20 → (bt x' k = true ↔ (bt x k = true ∨ pvR f nt ns k r))) → EX g mbOf (Ev g (d + 14)) (infoOf 153) k_X10_provedMarks (SxQ w F A f np nm v (fun r F' A' L' => ∃ x, r = some (.int x) ∧ pvB f nt ns nc x)) noX w.1 (cW w F2 A2 L2) 0 0 57 [some (.ref 0), some (.int x'), some (.ref 17), some (.int (nI r)), l4, l5] [] := by
      intro x' F2 A2 L2 l4 l5 hs2 hK2 hx2
      refine x_inc1 (lo' := [_, _, _, _, _, _]) rfl rfl rfl ?_
      refine x_go rfl ?_
      refine ih x' F2 A2 L2 _ _ hs2 hK2 fun k hk => ?_
      rw [hx2 k hk, hx k hk]
      constructor
      · rintro (⟨r', h1, h2⟩ | h)
        · exact ⟨r', by omega, h2⟩
        · exact ⟨r, by omega, h⟩
      · rintro ⟨r', h1, h2⟩
        by_cases e : r' = r
        · subst e; exact Or.inr h2
        · exact Or.inl ⟨r', by omega, h2⟩
    have same : (∀ k, k < 20 → pvR f nt ns k r → bt x k = true) → ∀ k, k < 20 → (bt x k = true ↔ (bt x k = true ∨ pvR f nt ns k r)) := fun h k hk => ⟨Or.inl, fun h2 => h2.elim id (h k hk)⟩
    refine x_call3 (c_sayAt (c := 1) hR1.sa h200 c0 (by decide) hn) rfl (Nat.le_of_ble_eq_true rfl) (Or.inl (by first | exact hn | assumption)) (rcv_at (cw_fs (by with_reducible exact tb_0 (by first | assumption | exact tbS | exact tbH)) hn) (by decide) (by decide)) (Nat.le_of_ble_eq_true rfl) (Nat.le_of_ble_eq_true rfl) (fun E w9 hq => hq.elim) ?_
    rintro v9 w9 ⟨rfl, rfl⟩
    refine x_is (lo' := [_, _, _, _, _, _]) rfl (Nat.le_of_ble_eq_true rfl) rfl ?_
    refine x_al rfl rfl ?_
    refine x_il rfl rfl ?_
    refine x_c rfl ?_
    rw [ek]
    refine x_call3 (c_sayAt (c := 2) hR1.sa h200 c0 (by decide) hn) rfl (Nat.le_of_ble_eq_true rfl) (Or.inl (by first | exact hn | assumption)) (rcv_at (cw_fs (by with_reducible exact tb_0 (by first | assumption | exact tbS | exact tbH)) hn) (by decide) (by decide)) (Nat.le_of_ble_eq_true rfl) (Nat.le_of_ble_eq_true rfl) (fun E w9 hq => hq.elim) ?_
    rintro v9 w9 ⟨rfl, rfl⟩
    refine x_is (lo' := [_, _, _, _, _, _]) rfl (Nat.le_of_ble_eq_true rfl) rfl ?_
    refine x_al rfl rfl ?_
    refine x_il rfl rfl ?_
    refine x_c rfl ?_
    rw [ec]
    refine x_call3 (c_sayAt (c := 4) hR1.sa h200 c0 (by decide) hn) rfl (Nat.le_of_ble_eq_true rfl) (Or.inl (by first | exact hn | assumption)) (rcv_at (cw_fs (by with_reducible exact tb_0 (by first | assumption | exact tbS | exact tbH)) hn) (by decide) (by decide)) (Nat.le_of_ble_eq_true rfl) (Nat.le_of_ble_eq_true rfl) (fun E w9 hq => hq.elim) ?_
    rintro v9 w9 ⟨rfl, rfl⟩
    refine x_c rfl ?_
    refine x_icne rfl (fun d1 => ?_) (fun d1 => ?_)
    · skip
      exact next _ _ _ _ _ _ hs hK1 (same (fun k hk h => absurd h.1 d1))
    refine x_il rfl rfl ?_
    refine x_il rfl rfl ?_
    refine x_shr rfl ?_
    refine x_c rfl ?_
    refine x_and rfl ?_
    rw [bt_shr (by omega)]
    have only : ∀ k, k < 20 → pvR f nt ns k r → k = k0 := fun k hk h => (nI_eq (by omega) (by omega)).mp (h.2.1.symm.trans ek)
    refine x_ifne rfl (fun d2 => ?_) (fun d2 => ?_)
    · skip
      exact next _ _ _ _ _ _ hs hK1 (same (fun k hk h => by rw [only k hk h]; cases hb : bt x k0 with | true => rfl | false => exact absurd (by rw [hb]; rfl) d2))
    refine x_al rfl rfl ?_
    refine x_getC rfl hn (by with_reducible exact sp_0) (by exact rfl) ?_
    refine x_il rfl rfl ?_
    refine x_call2 (c_isInFile hR1 hI hc1 hn) rfl (Nat.le_of_ble_eq_true rfl) (Or.inl (by first | exact hn | assumption)) (rcv_at (cw_fs (by with_reducible exact (by first | exact sp_6 | exact st_0 (by assumption))) hn) (by decide) (by decide)) (Nat.le_of_ble_eq_true rfl) (Nat.le_of_ble_eq_true rfl) (fun E w9 hq => hq.elim) ?_
    rintro v9 w9 ⟨rfl, rfl⟩
    refine x_ifeqB rfl (fun d3 => ?_) (fun d3 => ?_)
    · skip
      exact next _ _ _ _ _ _ hs hK1 (same (fun k hk h => absurd (by have := h.2.2.1; rw [ec2] at this; exact this) d3))
    refine x_al rfl rfl ?_
    refine x_il rfl rfl ?_
    refine x_il rfl rfl ?_
    refine x_al rfl rfl ?_
    refine x_il rfl rfl ?_
    refine x_c rfl ?_
    refine x_call3 (c_sayAt (c := 3) hR1.sa h200 c0 (by decide) hn) rfl (Nat.le_of_ble_eq_true rfl) (Or.inl (by first | exact hn | assumption)) (rcv_at (cw_fs (by with_reducible exact tb_0 (by first | assumption | exact tbS | exact tbH)) hn) (by decide) (by decide)) (Nat.le_of_ble_eq_true rfl) (Nat.le_of_ble_eq_true rfl) (fun E w9 hq => hq.elim) ?_
    rintro v9 w9 ⟨rfl, rfl⟩
    refine x_al rfl rfl ?_
    refine x_getC rfl hn (by with_reducible exact sp_0) (by exact rfl) ?_
    refine x_getC rfl hn (by with_reducible exact (by first | exact sp_6 | exact st_0 (by assumption))) (by exact rfl) ?_
    rw [ej, show F1 6 0 = f 0 from hR1.1.1]
    refine x_call5 (c_isProved hK1 hR1 hI hk0 hc1 hj1 hn) rfl (Nat.le_of_ble_eq_true rfl) (Or.inl (by first | exact hn | assumption)) (rcv_at (cw_fs (by with_reducible exact sp_0) hn) (by decide) (by decide)) (Nat.le_of_ble_eq_true rfl) (Nat.le_of_ble_eq_true rfl) (fun E w9 hq => hq.elim) ?_
    rintro v9 w9 ⟨F2, A2, L2, rfl, hs2, hK2, rfl⟩
    have hs3 : ∀ q, (q < 1396 ∨ q = 1409 ∨ q = 1423) → F2 q = F q ∧ A2 q = A q := fun q hq => ⟨(hs2 q hq).1.trans (hs q hq).1, (hs2 q hq).2.trans (hs q hq).2⟩
    refine x_ifeqB rfl (fun d4 => ?_) (fun d4 => ?_)
    · skip
      exact next _ _ _ _ _ _ hs3 hK2 (same (fun k hk h => absurd (by have h9 := h.2.2.2; rw [ec2, ej2, only k hk h] at h9; exact h9) d4))
    refine x_il rfl rfl ?_
    refine x_c rfl ?_
    refine x_il rfl rfl ?_
    refine x_shl rfl ?_
    refine x_or rfl ?_
    refine x_is (lo' := [_, _, _, _, _, _]) rfl (Nat.le_of_ble_eq_true rfl) rfl ?_
    refine next (sb x k0) _ _ _ _ _ hs3 hK2 fun k hk => ?_
    rw [bt_sb (by omega) (by omega), Bool.or_eq_true, decide_eq_true_iff]
    constructor
    · rintro (h | rfl)
      · exact Or.inl h
      · exact Or.inr ⟨d1, ek, by rw [ec2]; exact d3, by rw [ec2, ej2]; exact d4⟩
    · rintro (h | h)
      · exact Or.inl h
      · exact Or.inr (only k hk h).symm
  refine ev_X10_provedMarks ?_ (Nat.le_of_ble_eq_true rfl)
  refine x_lo (lo' := [some (.ref 0), none, none, none, none, none]) rfl ?_
  refine x_c rfl ?_
  refine x_is (lo' := [_, _, _, _, _, _]) rfl (Nat.le_of_ble_eq_true rfl) rfl ?_
  refine x_al rfl rfl ?_
  refine x_getC rfl hn (by with_reducible exact sp_0) (by exact rfl) ?_
  refine x_getC rfl hn (by with_reducible exact (by first | exact sp_6 | exact st_0 (by assumption))) (by exact rfl) ?_
  refine x_as (lo' := [_, _, _, _, _, _]) rfl (Nat.le_of_ble_eq_true rfl) rfl ?_
  refine x_c rfl ?_
  refine x_is (lo' := [_, _, _, _, _, _]) rfl (Nat.le_of_ble_eq_true rfl) rfl ?_
  exact loop 0 (Nat.zero_le _) 0 _ _ _ _ _ (fun q _ => ⟨rfl, rfl⟩) hK (fun k hk => ⟨fun h => by (rw [bt_0] at h; cases h), fun ⟨r', h1, _⟩ => absurd h1 (by omega)⟩)
theorem dkM_s {n nc ns k : Nat} {gr : Int32} {s : dkT} : dkM n nc ns gr s (k + 1) = (if ¬ (dkM n nc ns gr s k).1 (5826 + 39 * k + 5) = gr ∨ (dkM n nc ns gr s k).2 = 0 ∨ ¬ cn (setB (dkM n nc ns gr s k).1 n ns k) (10 * nc) = 0 then dkM n nc ns gr s k else dkK n nc k 0 (dkM n nc ns gr s k)) := rfl
end CALLS
