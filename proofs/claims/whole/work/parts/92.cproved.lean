/-! prints that are alike, sayings, proofs; cw_ -/
section CALLS
variable {g : aG} {d : Nat} {w : aW} {F A : Nat → Nat → Int32} {L : Nat → Int64} {f : Nat → Int32} {np nm nc nt ns nh v : Nat}
abbrev FNp (x : Int32) (np : Nat) : Prop := x = -1 ∨ ∃ p, p < np ∧ x = nI p
theorem c_arePrintsAlike {x y day : Int32} (hK : KI F A f np nm v) (hR : RS F A f 6 np nm nc nt ns nh) (hI : IV f np nm nc nt ns nh) (hx : FNp x np) (hy : FNp y np) (hn : w.1 = N0) : Ev g (d + 13) 143 [.ref 0, .int x, .int y, .int day] (cW w F A L) (SxQ w F A f np nm v (fun r F' A' L' => r = some (.int (bI (decide (0 ≤ x ∧ 0 ≤ y ∧ clsF f (cN x) = clsF f (cN y) ∧ vP f nt (cN x) (cN y) day = 2)))))) noX := by
  have h60 := hI.p60
  have h10 := hI.t10
  have hsame : ∀ b : Int32, SxQ w F A f np nm v (fun r F' A' L' => r = some (.int b)) (some (.int b)) (cW w F A L) := fun b => ⟨F, A, L, rfl, fun q hq => ⟨rfl, rfl⟩, hK, rfl⟩
  refine ev_X10_arePrintsAlike ?_ (Nat.le_of_ble_eq_true rfl)
  refine x_lo (lo' := [some (.ref 0), some (.int x), some (.int y), some (.int day), none, none, none]) rfl ?_
  refine x_al rfl rfl ?_
  refine x_getC rfl hn (by with_reducible exact sp_0) (by exact rfl) ?_
  refine x_il rfl rfl ?_
  refine x_call2 (c_isPrint hR.1.2.2.2.2.1 (by omega) hn) rfl (Nat.le_of_ble_eq_true rfl) (Or.inl (by first | exact hn | assumption)) (rcv_at (cw_fs (by with_reducible exact (by first | exact sp_6 | exact st_0 (by assumption))) hn) (by decide) (by decide)) (Nat.le_of_ble_eq_true rfl) (Nat.le_of_ble_eq_true rfl) (fun E w9 hq => hq.elim) ?_
  rintro v9 w9 ⟨rfl, rfl⟩
  rcases hx with rfl | ⟨p, hp, rfl⟩
  · rw [show okN (-1) np = false from c_noN1 (by decide)]
    refine x_ifeq rfl (fun e9 => ?_) (fun e9 => absurd rfl e9)
    refine x_c rfl ?_
    refine x_retz rfl (Nat.le_of_ble_eq_true rfl) (Nat.le_of_ble_eq_true rfl) rfl (by first | rfl | assumption) ?_
    rw [bI_f (fun h => absurd h.1 (by decide))]
    exact hsame 0
  rw [okN_n hp (by omega)]
  refine x_ifeq rfl (fun e9 => absurd e9 (show ¬ (1 : Int32) = 0 by decide)) (fun e9 => ?_)
  refine x_al rfl rfl ?_
  refine x_getC rfl hn (by with_reducible exact sp_0) (by exact rfl) ?_
  refine x_il rfl rfl ?_
  refine x_call2 (c_isPrint hR.1.2.2.2.2.1 (by omega) hn) rfl (Nat.le_of_ble_eq_true rfl) (Or.inl (by first | exact hn | assumption)) (rcv_at (cw_fs (by with_reducible exact (by first | exact sp_6 | exact st_0 (by assumption))) hn) (by decide) (by decide)) (Nat.le_of_ble_eq_true rfl) (Nat.le_of_ble_eq_true rfl) (fun E w9 hq => hq.elim) ?_
  rintro v9 w9 ⟨rfl, rfl⟩
  rcases hy with rfl | ⟨q, hq, rfl⟩
  · rw [show okN (-1) np = false from c_noN1 (by decide)]
    refine x_ifne rfl (fun e9 => absurd rfl e9) (fun e9 => ?_)
    refine x_c rfl ?_
    refine x_retz rfl (Nat.le_of_ble_eq_true rfl) (Nat.le_of_ble_eq_true rfl) rfl (by first | rfl | assumption) ?_
    rw [bI_f (fun h => absurd h.2.1 (by decide))]
    exact hsame 0
  rw [okN_n hq (by omega)]
  refine x_ifne rfl (fun e9 => ?_) (fun e9 => absurd (show (1 : Int32) = 0 from e9) (by decide))
  refine x_al rfl rfl ?_
  refine x_getC rfl hn (by with_reducible exact sp_0) (by exact rfl) ?_
  refine x_getC rfl hn (by with_reducible exact (by first | exact sp_6 | exact st_0 (by assumption))) (by exact rfl) ?_
  refine x_il rfl rfl ?_
  refine x_aaC rfl hn (by first | assumption | with_reducible exact sp_7 | with_reducible exact sp_8) (by decide) (by omega) ?_
  refine x_as (lo' := [_, _, _, _, _, _, _]) rfl (Nat.le_of_ble_eq_true rfl) rfl ?_
  refine x_al rfl rfl ?_
  refine x_getC rfl hn (by with_reducible exact sp_0) (by exact rfl) ?_
  refine x_getC rfl hn (by with_reducible exact (by first | exact sp_6 | exact st_0 (by assumption))) (by exact rfl) ?_
  refine x_il rfl rfl ?_
  refine x_aaC rfl hn (by with_reducible exact sp_7) (by decide) (by omega) ?_
  refine x_as (lo' := [_, _, _, _, _, _, _]) rfl (Nat.le_of_ble_eq_true rfl) rfl ?_
  refine x_al rfl rfl ?_
  refine x_getC rfl hn (by with_reducible exact pr_0 (by first | assumption | exact prA (by omega) | exact prD | exact prB (by assumption) (by omega))) (by exact rfl) ?_
  refine x_al rfl rfl ?_
  refine x_getC rfl hn (by with_reducible exact pr_0 (by first | assumption | exact prA (by omega) | exact prD | exact prB (by assumption) (by omega))) (by exact rfl) ?_
  have hP := hR.pr hp
  have hQ := hR.pr hq
  have ep : cN (nI p) = p := nI_clamp (by omega)
  have eq : cN (nI q) = q := nI_clamp (by omega)
  have z1 : (0 : Int32) ≤ nI p := (nI_leI (a := 0) (by omega) (by omega)).mpr (Nat.zero_le _)
  have z2 : (0 : Int32) ≤ nI q := (nI_leI (a := 0) (by omega) (by omega)).mpr (Nat.zero_le _)
  rw [ep, eq, hP.2.1.2.2, hQ.2.1.2.2]
  refine x_iceq rfl (fun c1 => ?_) (fun c1 => ?_)
  rotate_left
  · refine x_c rfl ?_
    refine x_retz rfl (Nat.le_of_ble_eq_true rfl) (Nat.le_of_ble_eq_true rfl) rfl (by first | rfl | assumption) ?_
    rw [bI_f (fun h => c1 h.2.2.1)]
    exact hsame 0
  refine x_al rfl rfl ?_
  refine x_getC rfl hn (by with_reducible exact sp_0) (by exact rfl) ?_
  refine x_al rfl rfl ?_
  refine x_getC rfl hn (by with_reducible exact sp_0) (by exact rfl) ?_
  refine x_il rfl rfl ?_
  refine x_il rfl rfl ?_
  refine x_call3 (c_keyP hn) rfl (Nat.le_of_ble_eq_true rfl) (Or.inl (by first | exact hn | assumption)) (rcv_at (cw_fs (by with_reducible exact sp_1396) hn) (by decide) (by decide)) (Nat.le_of_ble_eq_true rfl) (Nat.le_of_ble_eq_true rfl) (fun E w9 hq => hq.elim) ?_
  rintro v9 w9 ⟨rfl, rfl⟩
  refine x_al rfl rfl ?_
  refine x_getC rfl hn (by with_reducible exact pr_0 (by first | assumption | exact prA (by omega) | exact prD | exact prB (by assumption) (by omega))) (by exact rfl) ?_
  refine x_al rfl rfl ?_
  refine x_getC rfl hn (by with_reducible exact pr_0 (by first | assumption | exact prA (by omega) | exact prD | exact prB (by assumption) (by omega))) (by exact rfl) ?_
  refine x_al rfl rfl ?_
  refine x_getC rfl hn (by with_reducible exact sp_0) (by exact rfl) ?_
  refine x_getC rfl hn (by with_reducible exact (by first | exact sp_6 | exact st_0 (by assumption))) (by exact rfl) ?_
  rw [show F 6 1 = f 1 from hR.1.2.1]
  refine x_call5 (c_findP hK hR hI hp hq hn) rfl (Nat.le_of_ble_eq_true rfl) (Or.inl (by first | exact hn | assumption)) (rcv_at (cw_fs (by with_reducible exact sp_1396) hn) (by decide) (by decide)) (Nat.le_of_ble_eq_true rfl) (Nat.le_of_ble_eq_true rfl) (fun E w9 hq => hq.elim) ?_
  rintro v9 w9 ⟨rfl, F1, A1, rfl, hs1, hK1, hb1⟩
  refine x_al rfl rfl ?_
  refine x_getC rfl hn (by with_reducible exact sp_0) (by exact rfl) ?_
  refine x_al rfl rfl ?_
  refine x_getC rfl hn (by with_reducible exact sp_0) (by exact rfl) ?_
  refine x_al rfl rfl ?_
  refine x_getC rfl hn (by with_reducible exact pr_0 (by first | assumption | exact prA (by omega) | exact prD | exact prB (by assumption) (by omega))) (by exact rfl) ?_
  refine x_getC rfl hn (by with_reducible exact sh_0 (by first | assumption | exact sh_turned | exact pr_sh (by first | assumption | exact prA (by omega) | exact prD | exact prB (by assumption) (by omega)) | exact ma_sh (by first | assumption | exact maA (by omega) | exact maB (by assumption) (by omega)))) (by exact rfl) ?_
  refine x_al rfl rfl ?_
  refine x_getC rfl hn (by with_reducible exact pr_0 (by first | assumption | exact prA (by omega) | exact prD | exact prB (by assumption) (by omega))) (by exact rfl) ?_
  have hs0 : ∀ q, (q < 1396 ∨ q = 1409 ∨ q = 1423) → F1 q = F q ∧ A1 q = A q := fun q hq => hs1 q (by omega)
  have hR1 := hR.keep hI (fun q h1 h2 => hs0 q (by omega))
  have hP := hR1.pr hp
  have hQ := hR1.pr hq
  rw [show F1 (21 + 7 * p + 2) 4 = f (5 + 97 * p + 64) from hP.2.2.1.1.trans (hI.wp.1 p (by omega)).1.symm, show F1 (21 + 7 * q) 4 = clsF f q from hQ.2.1.2.2]
  refine x_call4 (c_ofLay hn) rfl (Nat.le_of_ble_eq_true rfl) (Or.inl (by first | exact hn | assumption)) (rcv_at (cw_fs (by with_reducible exact sp_1405) hn) (by decide) (by decide)) (Nat.le_of_ble_eq_true rfl) (Nat.le_of_ble_eq_true rfl) (fun E w9 hq => hq.elim) ?_
  rintro v9 w9 ⟨rfl, rfl⟩
  refine x_al rfl rfl ?_
  refine x_getC rfl hn (by with_reducible exact sp_0) (by exact rfl) ?_
  refine x_il rfl rfl ?_
  have hR2 : RS (udA F1 1405 (upd (F1 1405) 1 0)) A1 f 6 np nm nc nt ns nh := hR1.keep hI (fun q h1 h2 => ⟨udA_ne (by omega), rfl⟩)
  refine x_call2 (c_textOn (day := day) hR2 h10 hn) rfl (Nat.le_of_ble_eq_true rfl) (Or.inl (by first | exact hn | assumption)) (rcv_at (cw_fs (by with_reducible exact (by first | exact sp_6 | exact st_0 (by assumption))) hn) (by decide) (by decide)) (Nat.le_of_ble_eq_true rfl) (Nat.le_of_ble_eq_true rfl) (fun E w9 hq => hq.elim) ?_
  rintro v9 w9 ⟨rfl, rfl⟩
  refine x_as (lo' := [_, _, _, _, _, _, _]) rfl (Nat.le_of_ble_eq_true rfl) rfl ?_
  refine x_al rfl rfl ?_
  refine x_al rfl rfl ?_
  refine x_al rfl rfl ?_
  refine x_getC rfl hn (by with_reducible exact sp_0) (by exact rfl) ?_
  have hTO := hR2.txo day
  have hF : FcC (udA F1 1405 (upd (F1 1405) 1 0)) (ofL L (F1 1396 0) (F1 1396 1) (f (5 + 97 * p + 64)) (clsF f q)) (fun _ => false) (fcP f p q) := by
    refine ⟨fun j hj => ?_, fun j hj => ?_⟩
    · rw [udA_t, upd_at, bt_0]
    · unfold fcP fc5
      obtain rfl | rfl | rfl | rfl | rfl : j = 0 ∨ j = 1 ∨ j = 2 ∨ j = 3 ∨ j = 4 := by omega
      · exact congrArg Int32.toInt64 hb1.1
      · exact congrArg Int32.toInt64 hb1.2.1
      · rfl
      · rfl
      · rfl
  refine x_call2 (c_decidingRuleT (te_b h10) hTO (Or.inr hF) hn) rfl (Nat.le_of_ble_eq_true rfl) (Or.inl (by first | exact hn | assumption)) (rcv_at (cw_fs (by with_reducible exact te_0 (by first | assumption | exact teA (by omega) | exact teN | exact teD | exact te_b (by assumption) | exact teB (by assumption) (by omega))) hn) (by decide) (by decide)) (Nat.le_of_ble_eq_true rfl) (Nat.le_of_ble_eq_true rfl) (fun E w9 hq => hq.elim) ?_
  rintro v9 w9 ⟨rfl, rfl⟩
  refine x_call2 (c_verdictBy (te_b h10) hTO hn) rfl (Nat.le_of_ble_eq_true rfl) (Or.inl (by first | exact hn | assumption)) (rcv_at (cw_fs (by with_reducible exact te_0 (by first | assumption | exact teA (by omega) | exact teN | exact teD | exact te_b (by assumption) | exact teB (by assumption) (by omega))) hn) (by decide) (by decide)) (Nat.le_of_ble_eq_true rfl) (Nat.le_of_ble_eq_true rfl) (fun E w9 hq => hq.elim) ?_
  rintro v9 w9 ⟨rfl, rfl⟩
  refine x_c rfl ?_
  rw [show judF f (bestT f day nt) (fun _ => false) (fcP f p q) = vP f nt p q day from rfl]
  have fin : ∀ b : Int32, SxQ w F A f np nm v (fun r F' A' L' => r = some (.int b)) (some (.int b)) (cW w (udA F1 1405 (upd (F1 1405) 1 0)) A1 (ofL L (F1 1396 0) (F1 1396 1) (f (5 + 97 * p + 64)) (clsF f q))) := fun b => ⟨_, _, _, rfl, fun q hq => ⟨by rw [udA_ne (by omega)]; exact (hs0 q hq).1, (hs0 q hq).2⟩, ⟨by rw [udA_ne (by decide)]; exact hK1.1, hK1.2.1, hK1.2.2⟩, rfl⟩
  refine x_icne rfl (fun c2 => ?_) (fun c2 => ?_)
  · refine x_c rfl ?_
    refine x_retz rfl (Nat.le_of_ble_eq_true rfl) (Nat.le_of_ble_eq_true rfl) rfl (by first | rfl | assumption) ?_
    rw [bI_f (fun h => c2 h.2.2.2)]
    exact fin 0
  refine x_c rfl ?_
  refine x_go rfl ?_
  refine x_retz rfl (Nat.le_of_ble_eq_true rfl) (Nat.le_of_ble_eq_true rfl) rfl (by first | rfl | assumption) ?_
  rw [bI_t ⟨z1, z2, c1, c2⟩]
  exact fin 1
theorem c_alikeFingers {a b : Nat} {day : Int32} (hK : KI F A f np nm v) (hR : RS F A f 6 np nm nc nt ns nh) (hI : IV f np nm nc nt ns nh) (ha : a < nc) (hb : b < nc) (hn : w.1 = N0) : Ev g (d + 14) 142 [.ref 0, .int (nI a), .int (nI b), .int day] (cW w F A L) (SxQ w F A f np nm v (fun r F' A' L' => r = some (.int (nI (alkN f nt a b day 10))))) noX := by
  have h16 := hI.c16
  have loop : ∀ j, j ≤ 10 → ∀ F1 A1 L1, (∀ q, (q < 1396 ∨ q = 1409 ∨ q = 1423) → F1 q = F q ∧ A1 q = A q) → KI F1 A1 f np nm v → EX g mbOf (Ev g (d + 13)) (infoOf 142) k_X10_alikeFingers (SxQ w F A f np nm v (fun r F' A' L' => r = some (.int (nI (alkN f nt a b day 10))))) noX w.1 (cW w F1 A1 L1) 0 0 4 [some (.ref 0), some (.int (nI a)), some (.int (nI b)), some (.int day), some (.int (nI (alkN f nt a b day j))), some (.int (nI j))] [] := by
    refine downN 10 fun j hj ih => ?_
    intro F1 A1 L1 hs hK1
    have hR1 := hR.keep hI (fun q h1 h2 => hs q (by omega))
    refine x_il rfl rfl ?_
    refine x_c rfl ?_
    refine x_icgeN (y := 10) rfl (by omega) (fun c => ?_) (fun c => ?_)
    · refine x_il rfl rfl ?_
      refine x_reti rfl (Nat.le_of_ble_eq_true rfl) (Nat.le_of_ble_eq_true rfl) rfl ?_
      obtain rfl : j = 10 := by omega
      exact ⟨F1, A1, L1, rfl, hs, hK1, rfl⟩
    refine x_al rfl rfl ?_
    refine x_al rfl rfl ?_
    refine x_getC rfl hn (by with_reducible exact sp_0) (by exact rfl) ?_
    refine x_il rfl rfl ?_
    refine x_il rfl rfl ?_
    have ih := ih c
    refine x_call3 (c_printAt hR1 h16 ha c hn) rfl (Nat.le_of_ble_eq_true rfl) (Or.inl (by first | exact hn | assumption)) (rcv_at (cw_fs (by with_reducible exact (by first | exact sp_6 | exact st_0 (by assumption))) hn) (by decide) (by decide)) (Nat.le_of_ble_eq_true rfl) (Nat.le_of_ble_eq_true rfl) (fun E w9 hq => hq.elim) ?_
    rintro v9 w9 ⟨rfl, rfl⟩
    refine x_al rfl rfl ?_
    refine x_getC rfl hn (by with_reducible exact sp_0) (by exact rfl) ?_
    refine x_il rfl rfl ?_
    refine x_il rfl rfl ?_
    refine x_call3 (c_printAt hR1 h16 hb c hn) rfl (Nat.le_of_ble_eq_true rfl) (Or.inl (by first | exact hn | assumption)) (rcv_at (cw_fs (by with_reducible exact (by first | exact sp_6 | exact st_0 (by assumption))) hn) (by decide) (by decide)) (Nat.le_of_ble_eq_true rfl) (Nat.le_of_ble_eq_true rfl) (fun E w9 hq => hq.elim) ?_
    rintro v9 w9 ⟨rfl, rfl⟩
    refine x_il rfl rfl ?_
    refine x_call4 (c_arePrintsAlike hK1 hR1 hI (((hI.ca ha).2.2.2.1 j c).1) (((hI.ca hb).2.2.2.1 j c).1) hn) rfl (Nat.le_of_ble_eq_true rfl) (Or.inl (by first | exact hn | assumption)) (rcv_at (cw_fs (by with_reducible exact sp_0) hn) (by decide) (by decide)) (Nat.le_of_ble_eq_true rfl) (Nat.le_of_ble_eq_true rfl) (fun E w9 hq => hq.elim) ?_
    rintro v9 w9 ⟨F2, A2, L2, rfl, hs2, hK2, rfl⟩
    have hs3 : ∀ q, (q < 1396 ∨ q = 1409 ∨ q = 1423) → F2 q = F q ∧ A2 q = A q := fun q hq => ⟨(hs2 q hq).1.trans (hs q hq).1, (hs2 q hq).2.trans (hs q hq).2⟩
    refine x_ifeqB rfl (fun c1 => ?_) (fun c1 => ?_)
    · refine x_inc1 (lo' := [_, _, _, _, _, _]) rfl rfl rfl ?_
      refine x_go rfl ?_
      rw [show alkN f nt a b day (j + 1) = alkN f nt a b day j from cn_f (by rw [decide_eq_true_iff]; exact c1)] at ih
      exact ih _ _ _ hs3 hK2
    refine x_inc1 (lo' := [_, _, _, _, _, _]) rfl rfl rfl ?_
    refine x_inc1 (lo' := [_, _, _, _, _, _]) rfl rfl rfl ?_
    refine x_go rfl ?_
    rw [show alkN f nt a b day (j + 1) = alkN f nt a b day j + 1 from cn_t (by rw [decide_eq_true_iff]; exact c1)] at ih
    exact ih _ _ _ hs3 hK2
  refine ev_X10_alikeFingers ?_ (Nat.le_of_ble_eq_true rfl)
  refine x_lo (lo' := [some (.ref 0), some (.int (nI a)), some (.int (nI b)), some (.int day), none, none]) rfl ?_
  refine x_c rfl ?_
  refine x_is (lo' := [_, _, _, _, _, _]) rfl (Nat.le_of_ble_eq_true rfl) rfl ?_
  refine x_c rfl ?_
  refine x_is (lo' := [_, _, _, _, _, _]) rfl (Nat.le_of_ble_eq_true rfl) rfl ?_
  exact loop 0 (by decide) _ _ _ (fun q _ => ⟨rfl, rfl⟩) hK
theorem c_sayAt {r c : Nat} (hT : RsTab F A 17 6 10224 f ns) (h200 : ns ≤ 200) (hr : r < ns) (hc : c < 6) (hn : w.1 = N0) : Ev g (d + 2) 88 [.ref 17, .int (nI r), .int (nI c)] (cW w F A L) (RetQ (f (10224 + 6 * r + c)) (cW w F A L)) noX := by
  have h := m_at (g := g) (d := d) (cw_tab (w := w) (A := A) (L := L) tbS hT.1 h200 (by decide) (by decide) hn) hr hc hn
  rw [show A (17 + 1) (r * 6 + c) = f (10224 + 6 * r + c) from hT.2 r hr c hc] at h
  exact h
theorem c_hitAt {r c : Nat} (hT : RsTab F A 19 7 11425 f nh) (h200 : nh ≤ 200) (hr : r < nh) (hc : c < 7) (hn : w.1 = N0) : Ev g (d + 2) 88 [.ref 19, .int (nI r), .int (nI c)] (cW w F A L) (RetQ (f (11425 + 7 * r + c)) (cW w F A L)) noX := by
  have h := m_at (g := g) (d := d) (cw_tab (w := w) (A := A) (L := L) tbH hT.1 h200 (by decide) (by decide) hn) hr hc hn
  rw [show A (19 + 1) (r * 7 + c) = f (11425 + 7 * r + c) from hT.2 r hr c hc] at h
  exact h
theorem sdF_s {e k c i day : Int32} {r : Nat} : sdF f e k c i day (r + 1) = if f (10224 + 6 * r) = e ∧ f (10224 + 6 * r + 1) = k ∧ f (10224 + 6 * r + 2) = c ∧ f (10224 + 6 * r + 3) = i ∧ f (10224 + 6 * r + 5) ≤ day then f (10224 + 6 * r + 4) else sdF f e k c i day r := rfl
theorem c_gather {k c j : Int32} {day : Int32} (hR : RS F A f 6 np nm nc nt ns nh) (hI : IV f np nm nc nt ns nh) (hn : w.1 = N0) : Ev g (d + 3) 138 [.ref 0, .int k, .int c, .int j, .int day] (cW w F A L) (fun r w' => r = none ∧ ∃ h, w' = cW w F (udA A 1422 h) L ∧ ∀ e, e < 6 → h e = sdF f (nI e) k c j day ns) noX := by
  have h200 := hI.s200
  have loop2 : ∀ r, r ≤ ns → ∀ h l7, (∀ e, e < 6 → h e = sdF f (nI e) k c j day r) → EX g mbOf (Ev g (d + 2)) (infoOf 138) k_X10_gatherSayings (fun r w' => r = none ∧ ∃ h, w' = cW w F (udA A 1422 h) L ∧ ∀ e, e < 6 → h e = sdF f (nI e) k c j day ns) noX w.1 (cW w F (udA A 1422 h) L) 0 0 18 [some (.ref 0), some (.int k), some (.int c), some (.int j), some (.int day), some (.ref 17), some (.int (nI r)), l7] [] := by
    refine downN ns fun r hr ih => ?_
    intro h l7 hh
    have hT : RsTab F (udA A 1422 h) 17 6 10224 f ns := hR.sa
    refine x_il rfl rfl ?_
    refine x_al rfl rfl ?_
    refine x_getC rfl hn (by with_reducible exact tb_0 (by first | assumption | exact tbS | exact tbH)) (by exact rfl) ?_
    rw [show F 17 3 = nI ns from hT.1]
    refine x_icgeN rfl (by omega) (fun c0 => ?_) (fun c0 => ?_)
    · refine x_retv rfl (Nat.le_of_ble_eq_true rfl) (Nat.le_of_ble_eq_true rfl) rfl ?_
      obtain rfl : r = ns := by omega
      exact ⟨rfl, h, rfl, hh⟩
    refine x_al rfl rfl ?_
    refine x_il rfl rfl ?_
    refine x_c rfl ?_
    have ih := ih c0
    obtain ⟨⟨e0, he0, ee0⟩, _⟩ := hI.sa c0
    have skip : ¬ (f (10224 + 6 * r + 1) = k ∧ f (10224 + 6 * r + 2) = c ∧ f (10224 + 6 * r + 3) = j ∧ f (10224 + 6 * r + 5) ≤ day) → ∀ l7, EX g mbOf (Ev g (d + 2)) (infoOf 138) k_X10_gatherSayings (fun r w' => r = none ∧ ∃ h, w' = cW w F (udA A 1422 h) L ∧ ∀ e, e < 6 → h e = sdF f (nI e) k c j day ns) noX w.1 (cW w F (udA A 1422 h) L) 0 0 65 [some (.ref 0), some (.int k), some (.int c), some (.int j), some (.int day), some (.ref 17), some (.int (nI r)), l7] [] := by
      intro hne l7
      refine x_inc1 (lo' := [_, _, _, _, _, _, _, _]) rfl rfl rfl ?_
      refine x_go rfl ?_
      refine ih h _ fun e he => ?_
      rw [sdF_s, if_neg (fun h => hne h.2)]
      exact hh e he
    refine x_call3 (c_sayAt (c := 1) hT h200 c0 (by decide) hn) rfl (Nat.le_of_ble_eq_true rfl) (Or.inl (by first | exact hn | assumption)) (rcv_at (cw_fs (by with_reducible exact tb_0 (by first | assumption | exact tbS | exact tbH)) hn) (by decide) (by decide)) (Nat.le_of_ble_eq_true rfl) (Nat.le_of_ble_eq_true rfl) (fun E w9 hq => hq.elim) ?_
    rintro v9 w9 ⟨rfl, rfl⟩
    refine x_il rfl rfl ?_
    refine x_icne rfl (fun c1 => ?_) (fun c1 => ?_)
    · skip
      exact skip (fun h => c1 h.1) _
    refine x_al rfl rfl ?_
    refine x_il rfl rfl ?_
    refine x_c rfl ?_
    refine x_call3 (c_sayAt (c := 2) hT h200 c0 (by decide) hn) rfl (Nat.le_of_ble_eq_true rfl) (Or.inl (by first | exact hn | assumption)) (rcv_at (cw_fs (by with_reducible exact tb_0 (by first | assumption | exact tbS | exact tbH)) hn) (by decide) (by decide)) (Nat.le_of_ble_eq_true rfl) (Nat.le_of_ble_eq_true rfl) (fun E w9 hq => hq.elim) ?_
    rintro v9 w9 ⟨rfl, rfl⟩
    refine x_il rfl rfl ?_
    refine x_icne rfl (fun c2 => ?_) (fun c2 => ?_)
    · skip
      exact skip (fun h => c2 h.2.1) _
    refine x_al rfl rfl ?_
    refine x_il rfl rfl ?_
    refine x_c rfl ?_
    refine x_call3 (c_sayAt (c := 3) hT h200 c0 (by decide) hn) rfl (Nat.le_of_ble_eq_true rfl) (Or.inl (by first | exact hn | assumption)) (rcv_at (cw_fs (by with_reducible exact tb_0 (by first | assumption | exact tbS | exact tbH)) hn) (by decide) (by decide)) (Nat.le_of_ble_eq_true rfl) (Nat.le_of_ble_eq_true rfl) (fun E w9 hq => hq.elim) ?_
    rintro v9 w9 ⟨rfl, rfl⟩
    refine x_il rfl rfl ?_
    refine x_icne rfl (fun c3 => ?_) (fun c3 => ?_)
    · skip
      exact skip (fun h => c3 h.2.2.1) _
    refine x_al rfl rfl ?_
    refine x_il rfl rfl ?_
    refine x_c rfl ?_
    refine x_call3 (c_sayAt (c := 5) hT h200 c0 (by decide) hn) rfl (Nat.le_of_ble_eq_true rfl) (Or.inl (by first | exact hn | assumption)) (rcv_at (cw_fs (by with_reducible exact tb_0 (by first | assumption | exact tbS | exact tbH)) hn) (by decide) (by decide)) (Nat.le_of_ble_eq_true rfl) (Nat.le_of_ble_eq_true rfl) (fun E w9 hq => hq.elim) ?_
    rintro v9 w9 ⟨rfl, rfl⟩
    refine x_il rfl rfl ?_
    refine x_icle rfl (fun c4 => ?_) (fun c4 => ?_)
    rotate_left
    · refine x_go rfl ?_
      exact skip (fun h => c4 h.2.2.2) _
    refine x_al rfl rfl ?_
    refine x_il rfl rfl ?_
    refine x_c rfl ?_
    refine x_call3 (c_sayAt (c := 0) hT h200 c0 (by decide) hn) rfl (Nat.le_of_ble_eq_true rfl) (Or.inl (by first | exact hn | assumption)) (rcv_at (cw_fs (by with_reducible exact tb_0 (by first | assumption | exact tbS | exact tbH)) hn) (by decide) (by decide)) (Nat.le_of_ble_eq_true rfl) (Nat.le_of_ble_eq_true rfl) (fun E w9 hq => hq.elim) ?_
    rintro v9 w9 ⟨rfl, rfl⟩
    refine x_is (lo' := [_, _, _, _, _, _, _, _]) rfl (Nat.le_of_ble_eq_true rfl) rfl ?_
    refine x_il rfl rfl ?_
    rw [show f (10224 + 6 * r + 0) = nI e0 from ee0]
    refine x_iflt rfl (fun e9 => absurd e9 (nI_pos (by omega))) (fun e9 => ?_)
    refine x_il rfl rfl ?_
    refine x_c rfl ?_
    refine x_icgeN (y := 6) rfl (by omega) (fun e9 => absurd e9 (by omega)) (fun e9 => ?_)
    refine x_al rfl rfl ?_
    refine x_getC rfl hn (by with_reducible exact sp_0) (by exact rfl) ?_
    refine x_il rfl rfl ?_
    refine x_al rfl rfl ?_
    refine x_il rfl rfl ?_
    refine x_c rfl ?_
    refine x_call3 (c_sayAt (c := 4) hT h200 c0 (by decide) hn) rfl (Nat.le_of_ble_eq_true rfl) (Or.inl (by first | exact hn | assumption)) (rcv_at (cw_fs (by with_reducible exact tb_0 (by first | assumption | exact tbS | exact tbH)) hn) (by decide) (by decide)) (Nat.le_of_ble_eq_true rfl) (Nat.le_of_ble_eq_true rfl) (fun E w9 hq => hq.elim) ?_
    rintro v9 w9 ⟨rfl, rfl⟩
    refine x_iasC rfl hn (by with_reducible exact sp_1422) (by omega) ?_
    rw [udA_udA, udA_t]
    refine x_inc1 (lo' := [_, _, _, _, _, _, _, _]) rfl rfl rfl ?_
    refine x_go rfl ?_
    refine ih _ _ fun e he => ?_
    rw [sdF_s]
    by_cases h9 : e = e0
    · subst h9
      rw [upd_at, if_pos ⟨ee0, c1, c2, c3, c4⟩]
    · rw [upd_ne h9, if_neg (fun h => h9 ((nI_eq (by omega) (by omega)).mp (h.1.symm.trans ee0))), hh e he]
  have loop1 : ∀ i, i ≤ 6 → ∀ h l6 l7, (∀ e, e < i → h e = -1) → EX g mbOf (Ev g (d + 2)) (infoOf 138) k_X10_gatherSayings (fun r w' => r = none ∧ ∃ h, w' = cW w F (udA A 1422 h) L ∧ ∀ e, e < 6 → h e = sdF f (nI e) k c j day ns) noX w.1 (cW w F (udA A 1422 h) L) 0 0 2 [some (.ref 0), some (.int k), some (.int c), some (.int j), some (.int day), some (.int (nI i)), l6, l7] [] := by
    refine downN 6 fun i hi ih => ?_
    intro h l6 l7 hh
    refine x_il rfl rfl ?_
    refine x_c rfl ?_
    refine x_icgeN (y := 6) rfl (by omega) (fun c0 => ?_) (fun c0 => ?_)
    · refine x_al rfl rfl ?_
      refine x_getC rfl hn (by with_reducible exact sp_0) (by exact rfl) ?_
      refine x_getC rfl hn (by with_reducible exact (by first | exact sp_6 | exact st_0 (by assumption))) (by exact rfl) ?_
      refine x_as (lo' := [_, _, _, _, _, _, _, _]) rfl (Nat.le_of_ble_eq_true rfl) rfl ?_
      refine x_c rfl ?_
      refine x_is (lo' := [_, _, _, _, _, _, _, _]) rfl (Nat.le_of_ble_eq_true rfl) rfl ?_
      exact loop2 0 (Nat.zero_le _) h _ fun e he => hh e (by omega)
    refine x_al rfl rfl ?_
    refine x_getC rfl hn (by with_reducible exact sp_0) (by exact rfl) ?_
    refine x_il rfl rfl ?_
    refine x_c rfl ?_
    refine x_iasC rfl hn (by with_reducible exact sp_1422) (by omega) ?_
    refine x_inc1 (lo' := [_, _, _, _, _, _, _, _]) rfl rfl rfl ?_
    refine x_go rfl ?_
    rw [udA_udA, udA_t]
    refine ih c0 _ _ _ fun e he => ?_
    by_cases h9 : e = i
    · subst h9; exact upd_at
    · rw [upd_ne h9]; exact hh e (by omega)
  refine ev_X10_gatherSayings ?_ (Nat.le_of_ble_eq_true rfl)
  refine x_lo (lo' := [some (.ref 0), some (.int k), some (.int c), some (.int j), some (.int day), none, none, none]) rfl ?_
  refine x_c rfl ?_
  refine x_is (lo' := [_, _, _, _, _, _, _, _]) rfl (Nat.le_of_ble_eq_true rfl) rfl ?_
  have := loop1 0 (by decide) (A 1422) none none (fun e he => absurd he (by omega))
  rw [udA_self] at this
  exact this
theorem c_isProved {k c j : Nat} {day : Int32} (hK : KI F A f np nm v) (hR : RS F A f 6 np nm nc nt ns nh) (hI : IV f np nm nc nt ns nh) (hk : k < nm) (hc : c < nc) (hj : j < 10) (hn : w.1 = N0) : Ev g (d + 14) 140 [.ref 0, .int (nI k), .int (nI c), .int (nI j), .int day] (cW w F A L) (SxQ w F A f np nm v (fun r F' A' L' => r = some (.int (bI (decide (prvP f nt ns k c j day)))))) noX := by
  have h16 := hI.c16
  have h10 := hI.t10
  have hfn := ((hI.ca hc).2.2.2.1 j hj).1
  have hN := FN.neg (by have := hI.p60; omega) hfn
  refine ev_X10_isProved ?_ (Nat.le_of_ble_eq_true rfl)
  refine x_lo (lo' := [some (.ref 0), some (.int (nI k)), some (.int (nI c)), some (.int (nI j)), some (.int day), none, none, none]) rfl ?_
  refine x_al rfl rfl ?_
  refine x_getC rfl hn (by with_reducible exact sp_0) (by exact rfl) ?_
  refine x_il rfl rfl ?_
  refine x_il rfl rfl ?_
  refine x_call3 (c_printAt hR h16 hc hj hn) rfl (Nat.le_of_ble_eq_true rfl) (Or.inl (by first | exact hn | assumption)) (rcv_at (cw_fs (by with_reducible exact (by first | exact sp_6 | exact st_0 (by assumption))) hn) (by decide) (by decide)) (Nat.le_of_ble_eq_true rfl) (Nat.le_of_ble_eq_true rfl) (fun E w9 hq => hq.elim) ?_
  rintro v9 w9 ⟨rfl, rfl⟩
  refine x_is (lo' := [_, _, _, _, _, _, _, _]) rfl (Nat.le_of_ble_eq_true rfl) rfl ?_
  refine x_il rfl rfl ?_
  refine x_c rfl ?_
  refine x_icne rfl (fun c1 => ?_) (fun c1 => ?_)
  rotate_left
  · refine x_c rfl ?_
    refine x_retz rfl (Nat.le_of_ble_eq_true rfl) (Nat.le_of_ble_eq_true rfl) rfl (by first | rfl | assumption) ?_
    rw [bI_f (fun h => absurd (hN.mp c1) (Int32.not_lt.mpr h.1))]
    exact ⟨F, A, L, rfl, fun q hq => ⟨rfl, rfl⟩, hK, rfl⟩
  refine x_al rfl rfl ?_
  refine x_il rfl rfl ?_
  refine x_il rfl rfl ?_
  refine x_il rfl rfl ?_
  refine x_il rfl rfl ?_
  have h0 := Int32.not_lt.mp (fun h => c1 (hN.mpr h))
  refine x_call5 (c_gather (k := nI k) (c := nI c) (j := nI j) hR hI hn) rfl (Nat.le_of_ble_eq_true rfl) (Or.inl (by first | exact hn | assumption)) (rcv_at (cw_fs (by with_reducible exact sp_0) hn) (by decide) (by decide)) (Nat.le_of_ble_eq_true rfl) (Nat.le_of_ble_eq_true rfl) (fun E w9 hq => hq.elim) ?_
  rintro v9 w9 ⟨rfl, h, rfl, hh⟩
  refine x_c rfl ?_
  refine x_is (lo' := [_, _, _, _, _, _, _, _]) rfl (Nat.le_of_ble_eq_true rfl) rfl ?_
  refine x_c rfl ?_
  refine x_is (lo' := [_, _, _, _, _, _, _, _]) rfl (Nat.le_of_ble_eq_true rfl) rfl ?_
  have hK2 : KI F (udA A 1422 h) f np nm v := hK
  have hs2 : ∀ q, (q < 1396 ∨ q = 1409 ∨ q = 1423) → F q = F q ∧ udA A 1422 h q = A q := fun q hq => ⟨rfl, udA_ne (by omega)⟩
  have hR2 := hR.keep hI (fun q h1 h2 => hs2 q (by omega))
  have loop : ∀ e, e ≤ 6 → notN f ns k c j day e = 0 → EX g mbOf (Ev g (d + 13)) (infoOf 140) k_X10_isProved (SxQ w F A f np nm v (fun r F' A' L' => r = some (.int (bI (decide (prvP f nt ns k c j day)))))) noX w.1 (cW w F (udA A 1422 h) L) 0 0 21 [some (.ref 0), some (.int (nI k)), some (.int (nI c)), some (.int (nI j)), some (.int day), some (.int (f (6607 + 26 * c + (6 + j)))), some (.int (nI (sameN f ns k c j day e))), some (.int (nI e))] [] := by
    refine downN 6 fun e he ih => ?_
    intro hz
    have hsm : sameN f ns k c j day e ≤ e := cn_le _ _
    refine x_il rfl rfl ?_
    refine x_c rfl ?_
    refine x_icgeN (y := 6) rfl (by omega) (fun c2 => ?_) (fun c2 => ?_)
    · refine x_al rfl rfl ?_
      refine x_getC rfl hn (by with_reducible exact sp_0) (by exact rfl) ?_
      refine x_il rfl rfl ?_
      obtain rfl : e = 6 := by omega
      have no : ¬ (lastF f (bestT f day nt) 2 1 ≤ nI (sameN f ns k c j day 6) ∧ vM f nt k (cN (f (6607 + 26 * c + (6 + j)))) day = 2) → bI (decide (prvP f nt ns k c j day)) = 0 := fun hno => bI_f (fun h => hno ⟨h.2.2.1, h.2.2.2⟩)
      refine x_call2 (c_textOn (day := day) hR2 h10 hn) rfl (Nat.le_of_ble_eq_true rfl) (Or.inl (by first | exact hn | assumption)) (rcv_at (cw_fs (by with_reducible exact (by first | exact sp_6 | exact st_0 (by assumption))) hn) (by decide) (by decide)) (Nat.le_of_ble_eq_true rfl) (Nat.le_of_ble_eq_true rfl) (fun E w9 hq => hq.elim) ?_
      rintro v9 w9 ⟨rfl, rfl⟩
      refine x_as (lo' := [_, _, _, _, _, _, _, _]) rfl (Nat.le_of_ble_eq_true rfl) rfl ?_
      refine x_il rfl rfl ?_
      refine x_al rfl rfl ?_
      refine x_c rfl ?_
      refine x_c rfl ?_
      refine x_call3 (c_lastNumber (te_b h10) (hR2.txo day) hn) rfl (Nat.le_of_ble_eq_true rfl) (Or.inl (by first | exact hn | assumption)) (rcv_at (cw_fs (by with_reducible exact te_0 (by first | assumption | exact teA (by omega) | exact teN | exact teD | exact te_b (by assumption) | exact teB (by assumption) (by omega))) hn) (by decide) (by decide)) (Nat.le_of_ble_eq_true rfl) (Nat.le_of_ble_eq_true rfl) (fun E w9 hq => hq.elim) ?_
      rintro v9 w9 ⟨rfl, rfl⟩
      refine x_iclt rfl (fun c3 => ?_) (fun c3 => ?_)
      · skip
        refine x_c rfl ?_
        refine x_retz rfl (Nat.le_of_ble_eq_true rfl) (Nat.le_of_ble_eq_true rfl) rfl (by first | rfl | assumption) ?_
        rw [no (fun h => absurd c3 (Int32.not_lt.mpr h.1))]
        exact ⟨_, _, _, rfl, hs2, hK2, rfl⟩
      refine x_al rfl rfl ?_
      refine x_al rfl rfl ?_
      refine x_il rfl rfl ?_
      refine x_il rfl rfl ?_
      rcases hfn with e1 | ⟨p, hp, e1⟩
      · exact absurd e1 c1
      have ecn : cN (f (6607 + 26 * c + (6 + j))) = p := by rw [e1]; exact nI_clamp (by have := hI.p60; omega)
      refine x_eq e1 ?_
      refine x_il rfl rfl ?_
      refine x_call4 (c_decidingRule (day := day) hK2 hR2 hI hk hp hn) rfl (Nat.le_of_ble_eq_true rfl) (Or.inl (by first | exact hn | assumption)) (rcv_at (cw_fs (by with_reducible exact sp_0) hn) (by decide) (by decide)) (Nat.le_of_ble_eq_true rfl) (Nat.le_of_ble_eq_true rfl) (fun E w9 hq => hq.elim) ?_
      rintro v9 w9 ⟨F3, A3, L3, rfl, hs3, hK3, rfl, _⟩
      have hs4 : ∀ q, (q < 1396 ∨ q = 1409 ∨ q = 1423) → F3 q = F q ∧ A3 q = A q := fun q hq => ⟨(hs3 q hq).1, (hs3 q hq).2.trans (hs2 q hq).2⟩
      have hR3 := hR.keep hI (fun q h1 h2 => hs4 q (by omega))
      refine x_call2 (c_verdictBy (te_b h10) (hR3.txo day) hn) rfl (Nat.le_of_ble_eq_true rfl) (Or.inl (by first | exact hn | assumption)) (rcv_at (cw_fs (by with_reducible exact te_0 (by first | assumption | exact teA (by omega) | exact teN | exact teD | exact te_b (by assumption) | exact teB (by assumption) (by omega))) hn) (by decide) (by decide)) (Nat.le_of_ble_eq_true rfl) (Nat.le_of_ble_eq_true rfl) (fun E w9 hq => hq.elim) ?_
      rintro v9 w9 ⟨rfl, rfl⟩
      refine x_c rfl ?_
      rw [show judF f (bestT f day nt) (tgM f k) (fcM f k p day) = vM f nt k p day from rfl]
      refine x_icne rfl (fun c4 => ?_) (fun c4 => ?_)
      · skip
        refine x_c rfl ?_
        refine x_retz rfl (Nat.le_of_ble_eq_true rfl) (Nat.le_of_ble_eq_true rfl) rfl (by first | rfl | assumption) ?_
        rw [no (fun h => c4 (by have h9 := h.2; rw [ecn] at h9; exact h9))]
        exact ⟨_, _, _, rfl, hs4, hK3, rfl⟩
      refine x_c rfl ?_
      refine x_go rfl ?_
      refine x_retz rfl (Nat.le_of_ble_eq_true rfl) (Nat.le_of_ble_eq_true rfl) rfl (by first | rfl | assumption) ?_
      rw [bI_t (show prvP f nt ns k c j day from ⟨h0, hz, Int32.not_lt.mp c3, by rw [ecn]; exact c4⟩)]
      exact ⟨_, _, _, rfl, hs4, hK3, rfl⟩
    refine x_al rfl rfl ?_
    refine x_getC rfl hn (by with_reducible exact sp_0) (by exact rfl) ?_
    refine x_il rfl rfl ?_
    refine x_iaC rfl hn (by with_reducible exact sp_1422) (by omega) ?_
    have ih := ih c2
    rw [udA_t, hh e c2]
    refine x_ifne rfl (fun c3 => ?_) (fun c3 => ?_)
    rotate_left
    · refine x_c rfl ?_
      refine x_retz rfl (Nat.le_of_ble_eq_true rfl) (Nat.le_of_ble_eq_true rfl) rfl (by first | rfl | assumption) ?_
      rw [bI_f (fun h => absurd (cn_0 h.2.1 c2) (by simp [c3]))]
      exact ⟨_, _, _, rfl, hs2, hK2, rfl⟩
    refine x_al rfl rfl ?_
    refine x_getC rfl hn (by with_reducible exact sp_0) (by exact rfl) ?_
    refine x_il rfl rfl ?_
    refine x_iaC rfl hn (by with_reducible exact sp_1422) (by omega) ?_
    refine x_c rfl ?_
    have ih := ih (by rw [show notN f ns k c j day (e + 1) = notN f ns k c j day e from cn_f (by simpa using c3)]; exact hz)
    rw [udA_t, hh e c2]
    refine x_icne rfl (fun c4 => ?_) (fun c4 => ?_)
    · refine x_inc1 (lo' := [_, _, _, _, _, _, _, _]) rfl rfl rfl ?_
      refine x_go rfl ?_
      rw [show sameN f ns k c j day (e + 1) = sameN f ns k c j day e from cn_f (by simpa using c4)] at ih
      exact ih
    refine x_inc1 (lo' := [_, _, _, _, _, _, _, _]) rfl rfl rfl ?_
    refine x_inc1 (lo' := [_, _, _, _, _, _, _, _]) rfl rfl rfl ?_
    refine x_go rfl ?_
    rw [show sameN f ns k c j day (e + 1) = sameN f ns k c j day e + 1 from cn_t (by simpa using c4)] at ih
    exact ih
  exact loop 0 (by decide) rfl
end CALLS
