/-! a mark compared; cw_ -/
/-- the State stands at f1; what lies outside it and the scratch is as it was -/
def stI (F A F1 A1 : Nat → Nat → Int32) (f1 : Nat → Int32) (np nm nc nt ns nh v : Nat) : Prop := RS F1 A1 f1 6 np nm nc nt ns nh ∧ IV f1 np nm nc nt ns nh ∧ KI F1 A1 f1 np nm v ∧ ∀ q, (q < 6 ∨ (701 ≤ q ∧ q < 1396) ∨ q = 1409) → F1 q = F q ∧ A1 q = A q
theorem dk_0 {n k N x : Nat} {s : dkT} (h : s.2 = 0) : it N (dkP n k) id x s = s := by
  by_cases hx : x < N
  · rw [it_ret hx (r := s)]
    unfold dkP
    rw [if_pos h]
  · rw [it_end (by omega)]
    rfl
theorem RsC.cell {F A : Nat → Nat → Int32} {f : Nat → Int32} {q c j k : Nat} (h : RsC F A f q c) (hj : j < 10) (hk : k < 20) (hc : c < 16) : RsC F (udA A (q + 3) (upd (A (q + 3)) j (sb (A (q + 3) j) k))) (upd f (7023 + 10 * (16 * k + c) + j) 1) q c := by
  obtain ⟨h1, h2, h3⟩ := h
  refine ⟨?_, fun j' hj' => ⟨?_, ?_, fun k' hk' => ?_⟩, fun t ht => ?_⟩
  · rw [upd_ne (by omega), upd_ne (by omega), upd_ne (by omega)]; exact h1
  · rw [udA_ne (by omega), upd_ne (by omega)]; exact (h2 j' hj').1
  · rw [udA_ne (by omega), upd_ne (by omega)]; exact (h2 j' hj').2.1
  · rw [udA_t]
    by_cases e : j' = j
    · subst e
      rw [upd_at, bt_sb (by omega) (by omega), (h2 j' hj').2.2 k' hk']
      by_cases e2 : k = k'
      · subst e2
        rw [upd_at, decide_eq_true (rfl : k = k), Bool.or_true, decide_eq_true (by decide)]
      · rw [upd_ne (by omega), decide_eq_false e2, Bool.or_false]
    · rw [upd_ne e, (h2 j' hj').2.2 k' hk', upd_ne (by omega)]
  · rw [udA_ne (by omega), upd_ne (by omega)]; exact h3 t ht
theorem KI.keepC {F A F' A' : Nat → Nat → Int32} {f : Nat → Int32} {np nm v : Nat} (h : KI F A f np nm v) (h1 : F' 1396 11 = F 1396 11) (h2 : A' 1404 = A 1404) : KI F' A' f np nm v := ⟨by rw [h1]; exact h.1, h.2.1, by rw [h2]; exact h.2.2⟩
theorem samL_d {f f' : Nat → Int32} {np nm : Nat} (hd : agD f f') (h60 : np ≤ 60) (h20 : nm ≤ 20) : samL f f' np nm := by
  have hnd : ∀ i, i ≠ 3 → i < 7023 → f' i = f i := fun i h1 h2 => hd i (fun h => by unfold dkC at h; omega)
  exact ⟨hnd 1 (by omega) (by omega), fun p hp i h1 h2 => hnd i (by omega) (by omega), fun k hk i h1 h2 => hnd i (by omega) (by omega)⟩
theorem agD_s {f f' : Nat → Int32} (h : agD f f') : agD f' f := fun i hi => (h i hi).symm
theorem upd_comm {f : Nat → Int32} {i j : Nat} {a b : Int32} (h : i ≠ j) : upd (upd f i a) j b = upd (upd f j b) i a := by
  funext k
  unfold upd
  by_cases h1 : k = i
  · rw [if_neg (fun e => h (h1.symm.trans e)), if_pos h1, if_pos h1]
  · rw [if_neg h1, if_neg h1]
theorem hitW_3 {f : Nat → Int32} {h k x : Nat} {v p c : Int32} : upd (hitW f h k x v p) 3 c = hitW (upd f 3 c) h k x v p := by
  unfold hitW
  rw [upd_ne (show (0 : Nat) ≠ 3 by decide), upd_comm (show 11424 ≠ 3 by omega), upd_comm (show 11425 + 7 * h + 6 ≠ 3 by omega), upd_comm (show 11425 + 7 * h + 5 ≠ 3 by omega), upd_comm (show 11425 + 7 * h + 4 ≠ 3 by omega), upd_comm (show 11425 + 7 * h + 3 ≠ 3 by omega), upd_comm (show 11425 + 7 * h + 2 ≠ 3 by omega), upd_comm (show 11425 + 7 * h + 1 ≠ 3 by omega), upd_comm (show 11425 + 7 * h ≠ 3 by omega)]
theorem cm1_3 {f : Nat → Int32} {k c j : Nat} {c0 : Int32} (hj : j < 10) : upd (cm1 f k (10 * c + j)) 3 c0 = upd (upd f 3 c0) (7023 + 10 * (16 * k + c) + j) 1 := by
  unfold cm1
  rw [show (10 * c + j) / 10 = c by omega, show (10 * c + j) % 10 = j by omega, upd_upd, upd_comm (by omega)]
section CALLS
variable {g : aG} {d : Nat} {w : aW} {F A : Nat → Nat → Int32} {L : Nat → Int64} {f : Nat → Int32} {np nm nc nt ns nh v : Nat}
/-- what comparing leaves -/
def cmQ (w : aW) (F A : Nat → Nat → Int32) (np nm nc nt ns v most : Nat) (s : dkT) : Option Value → aW → Prop := fun r w' => r = some (.int (nI (most - s.2))) ∧ s.2 ≤ most ∧ ∃ F' A' L' nh', w' = cW w F' A' L' ∧ stI F A F' A' s.1 np nm nc nt ns nh' v
theorem c_compareMark {k most : Nat} (hK : KI F A f np nm v) (hR : RS F A f 6 np nm nc nt ns nh) (hI : IV f np nm nc nt ns nh) (hk : k < nm) (hm : most < 2 ^ 31) (hn : w.1 = N0) : Ev g (d + 14) 155 [.ref 0, .int (nI k), .int (nI most)] (cW w F A L) (cmQ w F A np nm nc nt ns v most (dkK nt nc k 0 (f, most))) noX := by
  have h16 := hI.c16
  have h20 := hI.m20
  have h60 := hI.p60
  have h10 := hI.t10
  generalize hc0 : f 3 = c0
  generalize hRf : dkK nt nc k 0 (f, most) = R
  generalize ho : bestT f (f 0) nt = o
  have hto : TeAt (teQ o) := by rw [← ho]; exact te_b h10
  have hf0 : ∃ v0, v0 ≤ 2000 ∧ f 0 = nI v0 := hI.2.1.1
  have loopC : ∀ c, c ≤ nc → ∀ (s : dkT) F1 A1 L1 nh1 l6 l7 l8, it (10 * nc) (dkP nt k) id (10 * c) s = R → s.2 ≤ most → s.1 3 = c0 + nI (most - s.2) → agD f s.1 → stI F A F1 A1 (upd s.1 3 c0) np nm nc nt ns nh1 v → EX g mbOf (Ev g (d + 13)) (infoOf 155) k_X10_compareMark (cmQ w F A np nm nc nt ns v most R) noX w.1 (cW w F1 A1 L1) 0 0 11 [some (.ref 0), some (.int (nI k)), some (.int (nI most)), some (.ref (teQ o)), some (.int (nI (most - s.2))), some (.int (nI c)), l6, l7, l8] [] := by
    refine downN nc fun c hcn ih => ?_
    intro s F1 A1 L1 nh1 l6 l7 l8 hit hsm hs3 hag ⟨hR1, hI1, hK1, hO1⟩
    refine x_il rfl rfl ?_
    refine x_al rfl rfl ?_
    refine x_getC rfl hn (by with_reducible exact sp_0) (by exact rfl) ?_
    refine x_getC rfl hn (by with_reducible exact (by first | exact sp_6 | exact st_0 (by assumption))) (by exact rfl) ?_
    rw [show F1 6 6 = nI nc from hR1.1.2.2.2.2.2.2.1]
    refine x_icgeN rfl (by omega) (fun cc => ?_) (fun cc => ?_)
    · refine x_al rfl rfl ?_
      refine x_getC rfl hn (by with_reducible exact sp_0) (by exact rfl) ?_
      refine x_dup rfl rfl ?_
      refine x_getC rfl hn (by with_reducible exact (by first | exact sp_6 | exact st_0 (by assumption))) (by exact rfl) ?_
      obtain rfl : c = nc := by omega
      rw [it_end (Nat.le_refl _)] at hit
      have hit : s = R := hit
      subst hit
      rw [show F1 6 3 = c0 from hR1.1.2.2.2.1.trans upd_at]
      refine x_il rfl rfl ?_
      refine x_add rfl ?_
      refine x_putC rfl hn (by with_reducible exact (by first | exact sp_6 | exact st_0 (by assumption))) (by exact rfl) (by first | rfl | exact nr_z (by assumption)) rfl ?_
      refine x_il rfl rfl ?_
      refine x_reti rfl (Nat.le_of_ble_eq_true rfl) (Nat.le_of_ble_eq_true rfl) rfl ?_
      rw [← hs3]
      have hd : agD (upd s.1 3 c0) s.1 := fun i hi => by
        rw [upd_ne (fun e => hi (Or.inl e))]
      refine ⟨rfl, hsm, _, _, _, nh1, rfl, hR1.desk hI1 hd (by rw [udA_t, upd_at]) (fun k hk => by rw [udA_t, upd_ne hk]) (fun q h1 h2 h3 => udA_ne (by omega)) (fun q h1 h2 h3 h4 => rfl) (fun c' hc' => ?_) ?_, hI1.desk hd ?_ hI1.h200 (fun k' c' j' h1 h2 h3 h4 => ?_), (hK1.cong (samL_d hd h60 h20) hI1.wp h60 h20 (Nat.le_refl _) (Nat.le_refl _)).keepC (by rw [udA_ne (by decide)]) rfl, fun q hq => ⟨by rw [udA_ne (by omega)]; exact (hO1 q hq).1, (hO1 q hq).2⟩⟩
      · exact ((hR1.ca hc').keep (fun r h1 h2 => ⟨udA_ne (by omega), rfl⟩)).cong (fun i h1 h2 => hd i (by unfold dkC; omega)) (fun k' j' h1 h2 => by rw [upd_ne (by omega)])
      · exact (hR1.hi.keep (udA_ne (by decide)) rfl).cong (fun i h1 h2 => (upd_ne (f := s.1) (v := c0) (show i ≠ 3 by omega)).symm)
      · have := hI1.1.2.2.2.2.2.1
        rw [upd_ne (by decide)] at this
        exact this
      · have := hI1.2.2.2.2.2.1.2 k' c' j' h1 h2 h3 h4
        rw [upd_ne (by omega)] at this
        exact this
    refine x_c rfl ?_
    refine x_is (lo' := [_, _, _, _, _, _, _, _, _]) rfl (Nat.le_of_ble_eq_true rfl) rfl ?_
    have ihc := ih cc
    have inner : ∀ j, j ≤ 10 → ∀ (s : dkT) F1 A1 L1 nh1 l7 l8, it (10 * nc) (dkP nt k) id (10 * c + j) s = R → s.2 ≤ most → s.1 3 = c0 + nI (most - s.2) → agD f s.1 → stI F A F1 A1 (upd s.1 3 c0) np nm nc nt ns nh1 v → EX g mbOf (Ev g (d + 13)) (infoOf 155) k_X10_compareMark (cmQ w F A np nm nc nt ns v most R) noX w.1 (cW w F1 A1 L1) 0 0 18 [some (.ref 0), some (.int (nI k)), some (.int (nI most)), some (.ref (teQ o)), some (.int (nI (most - s.2))), some (.int (nI c)), some (.int (nI j)), l7, l8] [] := by
      refine downN 10 fun j hj ihj => ?_
      intro s F1 A1 L1 nh1 l7 l8 hit hsm hs3 hag hst
      obtain ⟨hR1, hI1, hK1, hO1⟩ := hst
      refine x_il rfl rfl ?_
      refine x_c rfl ?_
      refine x_icgeN (y := 10) rfl (by omega) (fun cj => ?_) (fun cj => ?_)
      · skip
        refine x_inc1 (lo' := [_, _, _, _, _, _, _, _, _]) rfl rfl rfl ?_
        refine x_go rfl ?_
        obtain rfl : j = 10 := by omega
        exact ihc s F1 A1 L1 nh1 _ _ _ hit hsm hs3 hag ⟨hR1, hI1, hK1, hO1⟩
      refine x_il rfl rfl ?_
      refine x_il rfl rfl ?_
      refine x_icgeN rfl (by omega) (fun cm => ?_) (fun cm => ?_)
      · skip
        refine x_inc1 (lo' := [_, _, _, _, _, _, _, _, _]) rfl rfl rfl ?_
        refine x_go rfl ?_
        have h0 : s.2 = 0 := by omega
        rw [dk_0 h0] at hit
        exact ihc s F1 A1 L1 nh1 _ _ _ (by rw [dk_0 h0]; exact hit) hsm hs3 hag ⟨hR1, hI1, hK1, hO1⟩
      refine x_al rfl rfl ?_
      refine x_getC rfl hn (by with_reducible exact sp_0) (by exact rfl) ?_
      refine x_il rfl rfl ?_
      refine x_il rfl rfl ?_
      refine x_il rfl rfl ?_
      have ihj := ihj cj
      have h0 : ¬ s.2 = 0 := by omega
      have hx : 10 * c + j < 10 * nc := by omega
      have e1 : (10 * c + j) / 10 = c := by omega
      have e2 : (10 * c + j) % 10 = j := by omega
      refine x_call4 (c_isLeft hR1 hI1 (by omega) cc cj hn) rfl (Nat.le_of_ble_eq_true rfl) (Or.inl (by first | exact hn | assumption)) (rcv_at (cw_fs (by with_reducible exact (by first | exact sp_6 | exact st_0 (by assumption))) hn) (by decide) (by decide)) (Nat.le_of_ble_eq_true rfl) (Nat.le_of_ble_eq_true rfl) (fun E w9 hq => hq.elim) ?_
      rintro v9 w9 ⟨rfl, rfl⟩
      rw [upd_ne (show 6607 + 26 * c + 2 ≠ 3 by omega), upd_ne (show 6607 + 26 * c + (6 + j) ≠ 3 by omega), upd_ne (show 7023 + 10 * (16 * k + c) + j ≠ 3 by omega)]
      have hwt : wtP s.1 k (10 * c + j) ↔ (s.1 (6607 + 26 * c + 2) < 0 ∧ 0 ≤ s.1 (6607 + 26 * c + (6 + j)) ∧ s.1 (7023 + 10 * (16 * k + c) + j) = 0) := by
        unfold wtP
        rw [e1, e2]
      refine x_ifneB rfl (fun cl => ?_) (fun cl => ?_)
      rotate_left
      · refine x_go rfl ?_
        refine x_inc1 (lo' := [_, _, _, _, _, _, _, _, _]) rfl rfl rfl ?_
        refine x_go rfl ?_
        rw [it_go hx (s' := s) (by unfold dkP; rw [if_neg h0, if_neg (fun h => cl (hwt.mp h))])] at hit
        exact ihj s F1 A1 L1 nh1 _ _ hit hsm hs3 hag ⟨hR1, hI1, hK1, hO1⟩
      refine x_al rfl rfl ?_
      refine x_getC rfl hn (by with_reducible exact sp_0) (by exact rfl) ?_
      refine x_getC rfl hn (by with_reducible exact (by first | exact sp_6 | exact st_0 (by assumption))) (by exact rfl) ?_
      refine x_il rfl rfl ?_
      refine x_aaC rfl hn (by with_reducible exact sp_9) (by decide) (by omega) ?_
      refine x_as (lo' := [_, _, _, _, _, _, _, _, _]) rfl (Nat.le_of_ble_eq_true rfl) rfl ?_
      refine x_al rfl rfl ?_
      refine x_getC rfl hn (by with_reducible exact ca_0 (by first | assumption | exact caA (by omega) | exact caB (by assumption) (by omega))) (by exact rfl) ?_
      refine x_il rfl rfl ?_
      refine x_dup2 rfl rfl rfl ?_
      refine x_iaC rfl hn (by with_reducible exact ca_3 (by first | assumption | exact caA (by omega) | exact caB (by assumption) (by omega))) (by omega) ?_
      refine x_c rfl ?_
      refine x_il rfl rfl ?_
      refine x_shl rfl ?_
      refine x_or rfl ?_
      refine x_iasC rfl hn (by with_reducible exact ca_3 (by first | assumption | exact caA (by omega) | exact caB (by assumption) (by omega))) (by omega) ?_
      refine x_inc1 (lo' := [_, _, _, _, _, _, _, _, _]) rfl rfl rfl ?_
      refine x_al rfl rfl ?_
      refine x_al rfl rfl ?_
      refine x_il rfl rfl ?_
      refine x_al rfl rfl ?_
      refine x_getC rfl hn (by with_reducible exact ca_0 (by first | assumption | exact caA (by omega) | exact caB (by assumption) (by omega))) (by exact rfl) ?_
      refine x_il rfl rfl ?_
      refine x_iaC rfl hn (by with_reducible exact ca_1 (by first | assumption | exact caA (by omega) | exact caB (by assumption) (by omega))) (by omega) ?_
      refine x_al rfl rfl ?_
      refine x_getC rfl hn (by with_reducible exact sp_0) (by exact rfl) ?_
      refine x_getC rfl hn (by with_reducible exact (by first | exact sp_6 | exact st_0 (by assumption))) (by exact rfl) ?_
      have hw := hwt.mpr cl
      rw [it_go hx (s' := (cmpF s.1 nt k (10 * c + j), s.2 - 1)) (by unfold dkP; rw [if_neg h0, if_pos hw])] at hit
      rcases ((hI1.ca cc).2.2.2.1 j cj).1 with e | ⟨p, hp, e⟩
      · rw [upd_ne (by omega)] at e
        exact absurd cl.2.1 (by rw [e]; decide)
      have eF : s.1 (6607 + 26 * c + (6 + j)) = nI p := by rw [upd_ne (by omega)] at e; exact e
      have hRC := hR1.ca cc
      have eT : F1 6 0 = f 0 := hR1.1.1.trans ((upd_ne (by decide)).trans (hag 0 (by unfold dkC; omega)))
      have eG := cm1_3 (f := s.1) (k := k) (c := c) (c0 := c0) cj
      have hd12 : agD (upd s.1 3 c0) (upd (upd s.1 3 c0) (7023 + 10 * (16 * k + c) + j) 1) := agD_u (by unfold dkC; omega)
      have hdG : agD (cm1 s.1 k (10 * c + j)) (upd (cm1 s.1 k (10 * c + j)) 3 c0) := agD_u (Or.inl rfl)
      have hdC : agD s.1 (cm1 s.1 k (10 * c + j)) := cm1_ag (by omega) (by omega)
      rw [← eG] at hd12
      have hnh : s.1 11424 = nI nh1 := by
        have := hI1.1.2.2.2.2.2.1
        rw [upd_ne (by decide)] at this
        exact this
      have hst2 : stI F A F1 (udA A1 (561 + 5 * c + 3) (upd (A1 (561 + 5 * c + 3)) j (sb (A1 (561 + 5 * c + 3) j) k))) (upd (cm1 s.1 k (10 * c + j)) 3 c0) np nm nc nt ns nh1 v := by
        refine ⟨hR1.desk hI1 hd12 (hR1.1.2.2.2.1.trans (by rw [upd_at, upd_at])) (fun _ _ => rfl) (fun _ _ _ _ => rfl) (fun q h1 h2 h3 h4 => udA_ne (by omega)) (fun c' hc' => ?_) ?_, hI1.desk hd12 ?_ hI1.h200 (fun k' c' j' h1 h2 h3 h4 => ?_), (hK1.cong (samL_d hd12 h60 h20) hI1.wp h60 h20 (Nat.le_refl _) (Nat.le_refl _)).keepC rfl (udA_ne (by omega)), fun q hq => ⟨(hO1 q hq).1, by rw [udA_ne (by omega)]; exact (hO1 q hq).2⟩⟩
        · rw [eG]
          by_cases hcc : c' = c
          · subst hcc
            exact hRC.cell cj (by omega) (by omega)
          · exact ((hR1.ca hc').keep (fun r h1 h2 => ⟨rfl, udA_ne (by omega)⟩)).cong (fun i h1 h2 => upd_ne (by omega)) (fun k' j' h1 h2 => by rw [upd_ne (by omega)])
        · rw [eG]
          exact (hR1.hi.keep rfl (udA_ne (by omega))).cong (fun i h1 h2 => upd_ne (by omega))
        · rw [eG, upd_ne (by omega), upd_ne (by omega)]; exact hnh
        · rw [eG, upd_ne (by omega)]; exact hI1.2.2.2.2.2.1.2 k' c' j' h1 h2 h3 h4
      obtain ⟨hR2, hI2, hK2, hO2⟩ := hst2
      rw [udA_ne (show 561 + 5 * c + 1 ≠ 561 + 5 * c + 3 by omega), show A1 (561 + 5 * c + 1) j = nI p from (hRC.2.1 j cj).1.trans e, eT]
      rw [show A1 (561 + 5 * c + 3) j ||| 1 <<< (nI k &&& 31) = sb (A1 (561 + 5 * c + 3) j) k from rfl]
      generalize hA2 : udA A1 (561 + 5 * c + 3) (upd (A1 (561 + 5 * c + 3)) j (sb (A1 (561 + 5 * c + 3) j) k)) = A2 at *
      have hsT : samT f (upd (cm1 s.1 k (10 * c + j)) 3 c0) := fun i hi => by
        rw [hdG i (by unfold dkC; omega), hdC i (by unfold dkC; omega), hag i (by unfold dkC; omega)]
      have eb : bestT (upd (cm1 s.1 k (10 * c + j)) 3 c0) (f 0) nt = o := by rw [bestT_c hsT, ho]
      refine x_call4 (c_decidingRule (day := f 0) hK2 hR2 hI2 hk hp hn) rfl (Nat.le_of_ble_eq_true rfl) (Or.inl (by first | exact hn | assumption)) (rcv_at (cw_fs (by with_reducible exact sp_0) hn) (by decide) (by decide)) (Nat.le_of_ble_eq_true rfl) (Nat.le_of_ble_eq_true rfl) (fun E w9 hq => hq.elim) ?_
      rintro v9 w9 ⟨F3, A3, L3, rfl, hs3', hK3, rfl, hbl⟩
      have hR3 := hR2.keep hI2 (fun q h1 h2 => hs3' q (by omega))
      have hTO := hR3.txo (f 0)
      rw [eb] at hTO
      rw [eb]
      refine x_call2 (c_verdictBy hto hTO hn) rfl (Nat.le_of_ble_eq_true rfl) (Or.inl (by first | exact hn | assumption)) (rcv_at (cw_fs (by with_reducible exact te_0 (by first | assumption | exact teA (by omega) | exact teN | exact teD | exact te_b (by assumption) | exact teB (by assumption) (by omega))) hn) (by decide) (by decide)) (Nat.le_of_ble_eq_true rfl) (Nat.le_of_ble_eq_true rfl) (fun E w9 hq => hq.elim) ?_
      rintro v9 w9 ⟨rfl, rfl⟩
      refine x_is (lo' := [_, _, _, _, _, _, _, _, _]) rfl (Nat.le_of_ble_eq_true rfl) rfl ?_
      refine x_il rfl rfl ?_
      have eV : judF (upd (cm1 s.1 k (10 * c + j)) 3 c0) o (tgM (upd (cm1 s.1 k (10 * c + j)) 3 c0) k) (fcM (upd (cm1 s.1 k (10 * c + j)) 3 c0) k p (f 0)) = vM (cm1 s.1 k (10 * c + j)) nt k p (s.1 0) := by
        have hWc : WP (cm1 s.1 k (10 * c + j)) := WP_c (fun i h1 h2 => (hdG i (by unfold dkC; omega)).symm) hI2.wp
        rw [hag 0 (by unfold dkC; omega), ← vM_c hdG hWc (by omega) (by omega)]
        unfold vM
        rw [eb]
      rw [eV]
      have eL : layMk (upd (cm1 s.1 k (10 * c + j)) 3 c0) k p = layMk (cm1 s.1 k (10 * c + j)) k p := by
        have hWc : WP (cm1 s.1 k (10 * c + j)) := WP_c (fun i h1 h2 => (hdG i (by unfold dkC; omega)).symm) hI2.wp
        exact layMk_c (hdG 1 (by unfold dkC; omega)) (fun i h1 h2 => hdG i (by unfold dkC; omega)) (fun i h1 h2 => hdG i (by unfold dkC; omega)) (wp_p hWc (by omega)) (wp_m hWc (by omega))
      rw [eL] at hbl
      rw [cmp_e (n := nt) (k := k) (x := 10 * c + j) (p := p) (h := nh1) (by omega) hI1.h200 (by rw [e1, e2]; exact eF) hnh] at hit
      generalize hV : vM (cm1 s.1 k (10 * c + j)) nt k p (s.1 0) = V at *
      have hO3 : ∀ q, (q < 6 ∨ (701 ≤ q ∧ q < 1396) ∨ q = 1409) → F3 q = F q ∧ A3 q = A q := fun q hq => ⟨(hs3' q (by omega)).1.trans (hO2 q hq).1, (hs3' q (by omega)).2.trans (hO2 q hq).2⟩
      have eM : most - s.2 + 1 = most - (s.2 - 1) := by omega
      have e3 : cm1 s.1 k (10 * c + j) 3 = c0 + nI (most - (s.2 - 1)) := by
        show upd (upd s.1 _ 1) 3 (upd s.1 _ 1 3 + 1) 3 = _
        rw [upd_at, upd_ne (by omega), hs3, ← eM, ← nI_add, Int32.add_assoc]
        rfl
      rw [eM]
      have plain : (V = 0 ∨ nh1 = 200) → ∀ l8, EX g mbOf (Ev g (d + 13)) (infoOf 155) k_X10_compareMark (cmQ w F A np nm nc nt ns v most R) noX w.1 (cW w F3 A3 L3) 0 0 70 [some (.ref 0), some (.int (nI k)), some (.int (nI most)), some (.ref (teQ o)), some (.int (nI (most - (s.2 - 1)))), some (.int (nI c)), some (.int (nI j)), some (.ref (561 + 5 * c)), l8] [] := by
        intro hp2 l8
        refine x_inc1 (lo' := [_, _, _, _, _, _, _, _, _]) rfl rfl rfl ?_
        refine x_go rfl ?_
        rw [if_pos hp2] at hit
        exact ihj (cm1 s.1 k (10 * c + j), s.2 - 1) F3 A3 L3 nh1 _ _ hit (by show s.2 - 1 ≤ most; omega) e3 (agD_t hag hdC) ⟨hR3, hI2, hK3, hO3⟩
      refine x_ifeq rfl (fun cv => ?_) (fun cv => ?_)
      · skip
        exact plain (Or.inl cv) _
      refine x_al rfl rfl ?_
      refine x_il rfl rfl ?_
      refine x_il rfl rfl ?_
      refine x_il rfl rfl ?_
      refine x_il rfl rfl ?_
      have hkh := c_keepHit (g := g) (d := d + 10) (w := w) (F := F3) (A := A3) (L := L3) (k := nI k) (c := nI c) (j := nI j) (x := V) hR3.hi hI1.h200 hbl.1 hn
      by_cases hf : 200 ≤ nh1
      · rw [if_pos hf] at hkh
        refine x_call5 (hkh) rfl (Nat.le_of_ble_eq_true rfl) (Or.inl (by first | exact hn | assumption)) (rcv_at (cw_fs (by with_reducible exact sp_0) hn) (by decide) (by decide)) (Nat.le_of_ble_eq_true rfl) (Nat.le_of_ble_eq_true rfl) (fun E w9 hq => hq.elim) ?_
        rintro v9 w9 ⟨rfl, rfl⟩
        exact plain (Or.inr (by have := hI1.h200; omega)) _
      · rw [if_neg hf] at hkh
        refine x_call5 (hkh) rfl (Nat.le_of_ble_eq_true rfl) (Or.inl (by first | exact hn | assumption)) (rcv_at (cw_fs (by with_reducible exact sp_0) hn) (by decide) (by decide)) (Nat.le_of_ble_eq_true rfl) (Nat.le_of_ble_eq_true rfl) (fun E w9 hq => hq.elim) ?_
        rintro v9 w9 ⟨rfl, rfl⟩
        refine x_inc1 (lo' := [_, _, _, _, _, _, _, _, _]) rfl rfl rfl ?_
        refine x_go rfl ?_
        rw [if_neg (fun h => h.elim cv (fun h => by omega))] at hit
        refine ihj (hitW (cm1 s.1 k (10 * c + j)) nh1 k (10 * c + j) V (layMk (cm1 s.1 k (10 * c + j)) k p).1, s.2 - 1) _ _ L3 (nh1 + 1) _ _ hit (by show s.2 - 1 ≤ most; omega) ?_ (agD_t (agD_t hag hdC) (hitW_ag (by omega))) ?_
        · show hitW (cm1 s.1 k (10 * c + j)) nh1 k (10 * c + j) V (layMk (cm1 s.1 k (10 * c + j)) k p).1 3 = c0 + nI (most - (s.2 - 1))
          rw [show hitW (cm1 s.1 k (10 * c + j)) nh1 k (10 * c + j) V (layMk (cm1 s.1 k (10 * c + j)) k p).1 3 = cm1 s.1 k (10 * c + j) 3 by unfold hitW; rw [upd_ne (by omega), upd_ne (by omega), upd_ne (by omega), upd_ne (by omega), upd_ne (by omega), upd_ne (by omega), upd_ne (by omega), upd_ne (by omega)]]
          exact e3
        · show stI F A _ _ (upd (hitW (cm1 s.1 k (10 * c + j)) nh1 k (10 * c + j) V (layMk (cm1 s.1 k (10 * c + j)) k p).1) 3 c0) np nm nc nt ns (nh1 + 1) v
          rw [hitW_3]
          have hdH : agD (upd (cm1 s.1 k (10 * c + j)) 3 c0) (hitW (upd (cm1 s.1 k (10 * c + j)) 3 c0) nh1 k (10 * c + j) V (layMk (cm1 s.1 k (10 * c + j)) k p).1) := hitW_ag (by omega)
          have hH := hitR_tab (v := 0) (F := F3) (A := A3) (k := k) (x := 10 * c + j) (q := V) (p := (layMk (cm1 s.1 k (10 * c + j)) k p).1) hR3.hi hI2.1.2.2.2.2.2.1
          rw [e1, e2, ← show F3 6 0 = upd (cm1 s.1 k (10 * c + j)) 3 c0 0 from hR3.1.1] at hH
          have h3c : hitW (upd (cm1 s.1 k (10 * c + j)) 3 c0) nh1 k (10 * c + j) V (layMk (cm1 s.1 k (10 * c + j)) k p).1 3 = c0 := by
            rw [← hitW_3, upd_at]
          have hzz : ∀ i, i < 11424 → hitW (upd (cm1 s.1 k (10 * c + j)) 3 c0) nh1 k (10 * c + j) V (layMk (cm1 s.1 k (10 * c + j)) k p).1 i = upd (cm1 s.1 k (10 * c + j)) 3 c0 i := by
            intro i hi
            unfold hitW
            rw [upd_ne (by omega), upd_ne (by omega), upd_ne (by omega), upd_ne (by omega), upd_ne (by omega), upd_ne (by omega), upd_ne (by omega), upd_ne (by omega)]
          refine ⟨hR3.desk hI2 hdH ?_ (fun _ _ => rfl) (fun q h1 h2 h3 => udA_ne h3) (fun q h1 h2 h3 h4 => udA_ne h3) (fun c' hc' => ?_) hH, hI2.desk hdH upd_at (by omega) (fun k' c' j' h1 h2 h3 h4 => ?_), (hK3.cong (samL_d hdH h60 h20) hI2.wp h60 h20 (Nat.le_refl _) (Nat.le_refl _)).keepC rfl rfl, fun q hq => ⟨by rw [udA_ne (by omega)]; exact (hO3 q hq).1, by rw [udA_ne (by omega)]; exact (hO3 q hq).2⟩⟩
          · rw [h3c]
            exact hR3.1.2.2.2.1.trans upd_at
          · exact ((hR3.ca hc').keep (fun r h1 h2 => ⟨udA_ne (by omega), udA_ne (by omega)⟩)).cong (fun i h1 h2 => hzz i (by omega)) (fun k' j' h1 h2 => by rw [hzz _ (by omega)])
          · rw [hzz _ (by omega)]; exact hI2.2.2.2.2.2.1.2 k' c' j' h1 h2 h3 h4
    exact inner 0 (by decide) s F1 A1 L1 nh1 _ _ hit hsm hs3 hag ⟨hR1, hI1, hK1, hO1⟩
  refine ev_X10_compareMark ?_ (Nat.le_of_ble_eq_true rfl)
  refine x_lo (lo' := [some (.ref 0), some (.int (nI k)), some (.int (nI most)), none, none, none, none, none, none]) rfl ?_
  refine x_al rfl rfl ?_
  refine x_getC rfl hn (by with_reducible exact sp_0) (by exact rfl) ?_
  refine x_al rfl rfl ?_
  refine x_getC rfl hn (by with_reducible exact sp_0) (by exact rfl) ?_
  refine x_getC rfl hn (by with_reducible exact (by first | exact sp_6 | exact st_0 (by assumption))) (by exact rfl) ?_
  rw [show F 6 0 = f 0 from hR.1.1]
  refine x_call2 (c_textOn (day := f 0) hR h10 hn) rfl (Nat.le_of_ble_eq_true rfl) (Or.inl (by first | exact hn | assumption)) (rcv_at (cw_fs (by with_reducible exact (by first | exact sp_6 | exact st_0 (by assumption))) hn) (by decide) (by decide)) (Nat.le_of_ble_eq_true rfl) (Nat.le_of_ble_eq_true rfl) (fun E w9 hq => hq.elim) ?_
  rintro v9 w9 ⟨rfl, rfl⟩
  refine x_as (lo' := [_, _, _, _, _, _, _, _, _]) rfl (Nat.le_of_ble_eq_true rfl) rfl ?_
  refine x_c rfl ?_
  refine x_is (lo' := [_, _, _, _, _, _, _, _, _]) rfl (Nat.le_of_ble_eq_true rfl) rfl ?_
  refine x_c rfl ?_
  refine x_is (lo' := [_, _, _, _, _, _, _, _, _]) rfl (Nat.le_of_ble_eq_true rfl) rfl ?_
  rw [ho]
  have h9 : most - ((f, most) : dkT).2 = 0 := Nat.sub_self _
  have := loopC 0 (Nat.zero_le _) (f, most) F A L nh none none none hRf (Nat.le_refl _) (by rw [h9]; exact hc0.trans (Int32.add_zero c0).symm) (fun _ _ => rfl) (by rw [← hc0, upd_self]; exact ⟨hR, hI, hK, fun _ _ => ⟨rfl, rfl⟩⟩)
  rw [h9] at this
  exact this
end CALLS
