/-! the day's work at the desk, strikes; cw_ -/
section CALLS
variable {g : aG} {d : Nat} {w : aW} {F A : Nat → Nat → Int32} {L : Nat → Int64} {f : Nat → Int32} {np nm nc nt ns nh v : Nat}
def wdQ (w : aW) (F A : Nat → Nat → Int32) (f f1 : Nat → Int32) (np nm nc nt ns v : Nat) : Option Value → aW → Prop := fun r w' => r = none ∧ agD f f1 ∧ ∃ F' A' L' nh', w' = cW w F' A' L' ∧ stI F A F' A' f1 np nm nc nt ns nh' v
theorem stI.trans {F1 A1 F2 A2 : Nat → Nat → Int32} {f1 f2 : Nat → Int32} {nh1 nh2 : Nat} (h1 : stI F A F1 A1 f1 np nm nc nt ns nh1 v) (h2 : stI F1 A1 F2 A2 f2 np nm nc nt ns nh2 v) : stI F A F2 A2 f2 np nm nc nt ns nh2 v := ⟨h2.1, h2.2.1, h2.2.2.1, fun q hq => ⟨(h2.2.2.2 q hq).1.trans (h1.2.2.2 q hq).1, (h2.2.2.2 q hq).2.trans (h1.2.2.2 q hq).2⟩⟩
theorem c_workDesk {x : Int32} (hx : pvB f nt ns nc x) (hK : KI F A f np nm v) (hR : RS F A f 6 np nm nc nt ns nh) (hI : IV f np nm nc nt ns nh) (hn : w.1 = N0) : Ev g (d + 15) 154 [.ref 0, .int x] (cW w F A L) (wdQ w F A f (desksF f nt nc nm ns) np nm nc nt ns v) noX := by
  have h20 := hI.m20
  obtain ⟨_, v2, hv2, ev2⟩ := hI.2.1
  have e2 : cN (f 2) = v2 := by rw [ev2]; exact nI_clamp (by omega)
  unfold desksF
  rw [e2]
  generalize hQ : wdQ w F A f (dkM nt nc ns 0 (dkM nt nc ns 1 (f, v2) nm) nm).1 np nm nc nt ns v = Q
  have rnd : ∀ (gr : Int32) (r : Nat), ((r = 0 ∧ gr = 1) ∨ (r = 1 ∧ gr = 0)) → ∀ (s0 : dkT), (∀ F1 A1 L1 nh1 l5, stI F A F1 A1 (dkM nt nc ns gr s0 nm).1 np nm nc nt ns nh1 v → agD f (dkM nt nc ns gr s0 nm).1 → (dkM nt nc ns gr s0 nm).2 ≤ 60 → EX g mbOf (Ev g (d + 14)) (infoOf 154) k_X10_workDesk (Q) noX w.1 (cW w F1 A1 L1) 0 0 49 [some (.ref 0), some (.int x), some (.int (nI (dkM nt nc ns gr s0 nm).2)), some (.int (nI r)), some (.int (nI nm)), l5] []) → ∀ k, k ≤ nm → ∀ F1 A1 L1 nh1 l5, stI F A F1 A1 (dkM nt nc ns gr s0 k).1 np nm nc nt ns nh1 v → agD f (dkM nt nc ns gr s0 k).1 → (dkM nt nc ns gr s0 k).2 ≤ 60 → EX g mbOf (Ev g (d + 14)) (infoOf 154) k_X10_workDesk (Q) noX w.1 (cW w F1 A1 L1) 0 0 11 [some (.ref 0), some (.int x), some (.int (nI (dkM nt nc ns gr s0 k).2)), some (.int (nI r)), some (.int (nI k)), l5] [] := by
    intro gr r hgr s0 kont
    refine downN nm fun k hk ih => ?_
    intro F1 A1 L1 nh1 l5 hst hag h60
    refine x_il rfl rfl ?_
    refine x_al rfl rfl ?_
    refine x_getC rfl hn (by with_reducible exact sp_0) (by exact rfl) ?_
    refine x_getC rfl hn (by with_reducible exact (by first | exact sp_6 | exact st_0 (by assumption))) (by exact rfl) ?_
    rw [show F1 6 5 = nI nm from hst.1.1.2.2.2.2.2.1]
    refine x_icgeN rfl (by omega) (fun ck => ?_) (fun ck => ?_)
    · skip
      obtain rfl : k = nm := by omega
      exact kont F1 A1 L1 nh1 _ hst hag h60
    refine x_al rfl rfl ?_
    refine x_getC rfl hn (by with_reducible exact sp_0) (by exact rfl) ?_
    refine x_getC rfl hn (by with_reducible exact (by first | exact sp_6 | exact st_0 (by assumption))) (by exact rfl) ?_
    refine x_il rfl rfl ?_
    refine x_aaC rfl hn (by with_reducible exact sp_8) (by decide) (by omega) ?_
    refine x_getC rfl hn (by with_reducible exact ma_0 (by first | assumption | exact maA (by omega) | exact maB (by assumption) (by omega))) (by exact rfl) ?_
    refine x_il rfl rfl ?_
    have ih := ih ck
    rw [dkM_s] at ih
    generalize dkM nt nc ns gr s0 k = s at *
    obtain ⟨hR1, hI1, hK1, hO1⟩ := hst
    have eg := (hR1.ma ck).2.2.1
    obtain ⟨b, eb⟩ := (hI1.ma ck).2
    rw [show F1 (441 + 6 * k) 1 = bI b from eg.trans eb]
    rw [eb] at ih
    have hset : cn (setB s.1 nt ns k) (10 * nc) = cn (setB f nt ns k) (10 * nc) := setB_c hI hag (by omega)
    have stay : (¬ bI b = gr ∨ s.2 = 0 ∨ ¬ cn (setB s.1 nt ns k) (10 * nc) = 0) → ∀ l5, EX g mbOf (Ev g (d + 14)) (infoOf 154) k_X10_workDesk (Q) noX w.1 (cW w F1 A1 L1) 0 0 47 [some (.ref 0), some (.int x), some (.int (nI s.2)), some (.int (nI r)), some (.int (nI k)), l5] [] := by
      intro h l5
      rw [if_pos h] at ih
      refine x_inc1 (lo' := [_, _, _, _, _, _]) rfl rfl rfl ?_
      refine x_go rfl ?_
      exact ih F1 A1 L1 nh1 _ ⟨hR1, hI1, hK1, hO1⟩ hag h60
    have its : ∀ y : Bool, (y = true ↔ bI b = gr) → ∀ l5, EX g mbOf (Ev g (d + 14)) (infoOf 154) k_X10_workDesk (Q) noX w.1 (cW w F1 A1 L1) 0 0 31 [some (.ref 0), some (.int x), some (.int (nI s.2)), some (.int (nI r)), some (.int (nI k)), l5] [.int (bI y)] := by
      intro y hy l5
      refine x_is (lo' := [_, _, _, _, _, _]) rfl (Nat.le_of_ble_eq_true rfl) rfl ?_
      refine x_il rfl rfl ?_
      refine x_ifeq rfl (fun c1 => ?_) (fun c1 => ?_)
      · skip
        exact stay (Or.inl (fun h => by rw [bI_z.mp c1] at hy; exact absurd (hy.mpr h) (by decide))) _
      refine x_il rfl rfl ?_
      refine x_il rfl rfl ?_
      refine x_shr rfl ?_
      refine x_c rfl ?_
      refine x_and rfl ?_
      have y1 : y = true := by cases y with
        | true => rfl
        | false => exact absurd rfl c1
      rw [bt_shr (by omega)]
      refine x_ifne rfl (fun c2 => ?_) (fun c2 => ?_)
      · skip
        exact stay (Or.inr (Or.inr (by rw [hset]; have h9 := hx k (by omega); cases hb : bt x k with | true => (rw [hb] at h9; exact of_decide_eq_true h9.symm) | false => exact absurd (by rw [hb]; rfl) c2))) _
      refine x_il rfl rfl ?_
      refine x_al rfl rfl ?_
      refine x_il rfl rfl ?_
      refine x_il rfl rfl ?_
      have hns : cn (setB s.1 nt ns k) (10 * nc) = 0 := by
        rw [hset]
        have h9 := hx k (by omega)
        rw [bI_z.mp c2] at h9
        exact Classical.byContradiction (of_decide_eq_false h9.symm)
      refine x_call3 (c_compareMark (most := s.2) hK1 hR1 hI1 ck (by omega) hn) rfl (Nat.le_of_ble_eq_true rfl) (Or.inl (by first | exact hn | assumption)) (rcv_at (cw_fs (by with_reducible exact sp_0) hn) (by decide) (by decide)) (Nat.le_of_ble_eq_true rfl) (Nat.le_of_ble_eq_true rfl) (fun E w9 hq => hq.elim) ?_
      rintro v9 w9 ⟨rfl, hle, F2, A2, L2, nh2, rfl, hst2⟩
      refine x_sub rfl ?_
      refine x_is (lo' := [_, _, _, _, _, _]) rfl (Nat.le_of_ble_eq_true rfl) rfl ?_
      rw [show nI s.2 - nI (s.2 - (dkK nt nc k 0 (s.1, s.2)).2) = nI (dkK nt nc k 0 (s.1, s.2)).2 by rw [pk_sub (by omega), show s.2 - (s.2 - (dkK nt nc k 0 (s.1, s.2)).2) = (dkK nt nc k 0 (s.1, s.2)).2 by omega]]
      refine x_inc1 (lo' := [_, _, _, _, _, _]) rfl rfl rfl ?_
      refine x_go rfl ?_
      have hst3 : stI F A F2 A2 (dkK nt nc k 0 s).1 np nm nc nt ns nh2 v := (show stI F A F1 A1 s.1 np nm nc nt ns nh1 v from ⟨hR1, hI1, hK1, hO1⟩).trans hst2
      have ag2 : agD f (dkK nt nc k 0 s).1 := by
        refine agD_t hag ?_
        unfold dkK
        refine it_inv (I := fun u : dkT => agD s.1 u.1 ∧ ∃ h, h ≤ 200 ∧ u.1 11424 = nI h) (R := fun u : dkT => agD s.1 u.1) ?_ ?_ ?_ 0 (Nat.zero_le _) s ⟨fun _ _ => rfl, nh1, hI1.h200, hI1.1.2.2.2.2.2.1⟩
        · rintro c u u' hc ⟨ha, hh⟩ hs
          unfold dkP at hs
          split at hs
          · cases hs
          · split at hs
            · rename_i hw
              cases hs
              have h16 := hI1.c16
              have hnd : u.1 (6607 + 26 * (c / 10) + (6 + c % 10)) = s.1 (6607 + 26 * (c / 10) + (6 + c % 10)) := ha _ (by unfold dkC; omega)
              have hf : FO (u.1 (6607 + 26 * (c / 10) + (6 + c % 10))) := by
                rw [hnd]
                exact hI1.wf.2.2 (c / 10) (by omega) (c % 10) (by omega)
              have := cmp_ag (n := nt) (k := k) (x := c) (f := u.1) (by omega) (by omega) hf hw.2.1 hh
              exact ⟨agD_t ha this.1, this.2⟩
            · cases hs
              exact ⟨ha, hh⟩
        · rintro c u r hc ⟨ha, hh⟩ hs
          unfold dkP at hs
          split at hs
          · cases hs; exact ha
          · split at hs <;> cases hs
        · rintro u ⟨ha, _⟩
          exact ha
      by_cases h0 : s.2 = 0
      · have e0 : dkK nt nc k 0 s = s := dk_0 h0
        rw [if_pos (Or.inr (Or.inl h0))] at ih
        rw [show dkK nt nc k 0 (s.1, s.2) = s from e0]
        rw [e0] at hst3
        exact ih F2 A2 L2 nh2 _ hst3 hag h60
      · rw [if_neg (fun h => by rcases h with h | h | h; exact h (hy.mp y1); exact h0 h; exact h hns)] at ih
        exact ih F2 A2 L2 nh2 _ hst3 ag2 (by have : (dkK nt nc k 0 s).2 ≤ s.2 := hle; omega)
    rcases hgr with ⟨rfl, rfl⟩ | ⟨rfl, rfl⟩
    · refine x_ifne rfl (fun e9 => absurd rfl e9) (fun e9 => ?_)
      refine x_c rfl ?_
      refine x_go rfl ?_
      refine x_icne rfl (fun c1 => ?_) (fun c1 => ?_)
      · skip
        refine x_c rfl ?_
        exact its false (by cases b with | true => exact absurd rfl c1 | false => exact ⟨(fun h => absurd h (by decide)), fun h => absurd h c1⟩) _
      refine x_c rfl ?_
      refine x_go rfl ?_
      exact its true ⟨fun _ => c1, fun _ => rfl⟩ _
    · refine x_ifne rfl (fun e9 => ?_) (fun e9 => absurd e9 (by decide))
      refine x_c rfl ?_
      refine x_icne rfl (fun c1 => ?_) (fun c1 => ?_)
      · skip
        refine x_c rfl ?_
        exact its false ⟨(fun h => absurd h (by decide)), fun h => absurd h c1⟩ _
      refine x_c rfl ?_
      refine x_go rfl ?_
      exact its true ⟨fun _ => c1, fun _ => rfl⟩ _
  have k1 : ∀ F1 A1 L1 nh1 l5, stI F A F1 A1 (dkM nt nc ns 0 (dkM nt nc ns 1 (f, v2) nm) nm).1 np nm nc nt ns nh1 v → agD f (dkM nt nc ns 0 (dkM nt nc ns 1 (f, v2) nm) nm).1 → (dkM nt nc ns 0 (dkM nt nc ns 1 (f, v2) nm) nm).2 ≤ 60 → EX g mbOf (Ev g (d + 14)) (infoOf 154) k_X10_workDesk (Q) noX w.1 (cW w F1 A1 L1) 0 0 49 [some (.ref 0), some (.int x), some (.int (nI (dkM nt nc ns 0 (dkM nt nc ns 1 (f, v2) nm) nm).2)), some (.int (nI 1)), some (.int (nI nm)), l5] [] := by
    intro F1 A1 L1 nh1 l5 hst hag h60
    refine x_inc1 (lo' := [_, _, _, _, _, _]) rfl rfl rfl ?_
    refine x_go rfl ?_
    refine x_il rfl rfl ?_
    refine x_c rfl ?_
    refine x_icgeN (y := 2) rfl (by omega) (fun c => ?_) (fun c => absurd c (by omega))
    refine x_retv rfl (Nat.le_of_ble_eq_true rfl) (Nat.le_of_ble_eq_true rfl) rfl ?_
    rw [← hQ]
    exact ⟨rfl, hag, F1, A1, L1, nh1, rfl, hst⟩
  have k0 : ∀ F1 A1 L1 nh1 l5, stI F A F1 A1 (dkM nt nc ns 1 (f, v2) nm).1 np nm nc nt ns nh1 v → agD f (dkM nt nc ns 1 (f, v2) nm).1 → (dkM nt nc ns 1 (f, v2) nm).2 ≤ 60 → EX g mbOf (Ev g (d + 14)) (infoOf 154) k_X10_workDesk (Q) noX w.1 (cW w F1 A1 L1) 0 0 49 [some (.ref 0), some (.int x), some (.int (nI (dkM nt nc ns 1 (f, v2) nm).2)), some (.int (nI 0)), some (.int (nI nm)), l5] [] := by
    intro F1 A1 L1 nh1 l5 hst hag h60
    refine x_inc1 (lo' := [_, _, _, _, _, _]) rfl rfl rfl ?_
    refine x_go rfl ?_
    refine x_il rfl rfl ?_
    refine x_c rfl ?_
    refine x_icgeN (y := 2) rfl (by omega) (fun c => absurd c (by omega)) (fun c => ?_)
    refine x_c rfl ?_
    refine x_is (lo' := [_, _, _, _, _, _]) rfl (Nat.le_of_ble_eq_true rfl) rfl ?_
    exact rnd 0 1 (Or.inr ⟨rfl, rfl⟩) (dkM nt nc ns 1 (f, v2) nm) k1 0 (Nat.zero_le _) F1 A1 L1 nh1 _ hst hag h60
  refine ev_X10_workDesk ?_ (Nat.le_of_ble_eq_true rfl)
  refine x_lo (lo' := [some (.ref 0), some (.int x), none, none, none, none]) rfl ?_
  refine x_al rfl rfl ?_
  refine x_getC rfl hn (by with_reducible exact sp_0) (by exact rfl) ?_
  refine x_getC rfl hn (by with_reducible exact (by first | exact sp_6 | exact st_0 (by assumption))) (by exact rfl) ?_
  rw [show F 6 2 = nI v2 from hR.1.2.2.1.trans ev2]
  refine x_is (lo' := [_, _, _, _, _, _]) rfl (Nat.le_of_ble_eq_true rfl) rfl ?_
  refine x_c rfl ?_
  refine x_is (lo' := [_, _, _, _, _, _]) rfl (Nat.le_of_ble_eq_true rfl) rfl ?_
  refine x_il rfl rfl ?_
  refine x_c rfl ?_
  refine x_icgeN (x := 0) (y := 2) rfl (by omega) (fun c => absurd c (by omega)) (fun c => ?_)
  refine x_c rfl ?_
  refine x_is (lo' := [_, _, _, _, _, _]) rfl (Nat.le_of_ble_eq_true rfl) rfl ?_
  exact rnd 1 0 (Or.inl ⟨rfl, rfl⟩) (f, v2) k0 0 (Nat.zero_le _) F A L nh _ ⟨hR, hI, hK, fun _ _ => ⟨rfl, rfl⟩⟩ (fun _ _ => rfl) hv2
end CALLS
