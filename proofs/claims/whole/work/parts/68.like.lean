/-! like; mset_ -/
section CALLS
variable {g : aG} {d : Nat} {w : aW} {m f : Nat → Int32} {A : Nat → Nat → Int32} {B : Nat → Nat → Int64}
theorem rdF_le {V : Nat → Int64} {D : Nat} : ∀ k b (s : rdS), b < k → sbm D b = true → s.1 + cn (sbm D) (b + 1) ≤ 16 → (rdF V D k b s).1 ≤ 16 := by
  intro k
  induction k with
  | zero => intro b s h; omega
  | succ k ih =>
    intro b s hbk hs hc
    have a := addR_le (V b) s
    have hc2 := hc
    rw [cn_t hs] at hc2
    unfold rdF
    by_cases c : b = 0
    · rw [if_pos c]; omega
    · rw [if_neg c]
      obtain ⟨s1, s2, s3⟩ := sbm_next (Nat.pos_of_ne_zero c) hs
      exact ih _ _ (by omega) s1 (by omega)
theorem rdL_16 {c : Nat} (h4 : cn (dbt f c) 10 ≤ 4) : (rdL f c).1 ≤ 16 := by
  have hDlt : bitsN (dbt f c) 10 < 1024 := bitsN_lt _ _
  have hT : cn (sbm (bitsN (dbt f c) 10)) (bitsN (dbt f c) 10 + 1) ≤ 16 := by
    refine sub16 ⟨_, hDlt⟩ ?_
    refine Nat.le_trans (cn_mono (P := dbt f c) fun x hx h => ?_) h4
    rw [bitsN_tb] at h
    simp at h
    exact h.2
  exact rdF_le _ _ _ (Nat.lt_succ_self _) (by unfold sbm; rw [beq_iff_eq, Nat.and_self]) (by show 0 + _ ≤ 16; omega)
theorem r_like {x n : Int32} {nc : Nat} (hF1 : WF1 f nc) (h4 : ∀ c, c < nc → cn (dbt f c) 10 ≤ 4) (hn : w.1 = N0) : Ev g (d + 13) 247 [.ref 1424, .int x, .int n] (rW w m f A B) (OpQ w m f A (some (.int (if okN x nc = true then likeF f nc (cN x) n 0 0 else 0))) (if okN x nc = true then 0 else 1)) noX := by
  have hnc := hF1.2.1
  have h16 : ∀ c, c < nc → (rdL f c).1 ≤ 16 := fun c hc => rdL_16 (h4 c hc)
  refine ev_X11_like ?_ (Nat.le_of_ble_eq_true rfl)
  refine x_lo (lo' := [some (.ref 1424), some (.int x), some (.int n), none, none, none, none, none, none]) rfl ?_
  refine x_al rfl rfl ?_
  refine x_c rfl ?_
  refine x_putM rfl hn rfl rfl rfl (mset_0 _ _) ?_
  refine x_al rfl rfl ?_
  refine x_al rfl rfl ?_
  refine x_il rfl rfl ?_
  refine x_call2 (n_noCard hF1.1 (by omega) hn) rfl (Nat.le_of_ble_eq_true rfl) (Or.inl (by first | exact hn | assumption)) (rcv_at (by first | exact rw_md hn | exact rw_w hn | exact rw_A hn (by exact rfl) | exact rw_B2 hn | exact rw_B3 hn | assumption) (by decide) (by decide)) (Nat.le_of_ble_eq_true rfl) (Nat.le_of_ble_eq_true rfl) (fun E w9 hq => hq.elim) ?_
  rintro v9 w9 ⟨rfl, rfl⟩
  refine x_c rfl ?_
  refine x_call3 (n_throwsIf hn) rfl (Nat.le_of_ble_eq_true rfl) (Or.inl (by first | exact hn | assumption)) (rcv_at (by first | exact rw_md hn | exact rw_w hn | exact rw_A hn (by exact rfl) | exact rw_B2 hn | exact rw_B3 hn | assumption) (by decide) (by decide)) (Nat.le_of_ble_eq_true rfl) (Nat.le_of_ble_eq_true rfl) (fun E w9 hq => hq.elim) ?_
  rintro v9 w9 ⟨rfl, rfl⟩
  cases hb : okN x nc with
  | false =>
    refine x_ifeq rfl (fun c => absurd c (show ¬ (1 : Int32) = 0 by decide)) (fun c => ?_)
    refine x_c rfl ?_
    refine x_reti rfl (Nat.le_of_ble_eq_true rfl) (Nat.le_of_ble_eq_true rfl) rfl ?_
    exact opq_t
  | true =>
    obtain ⟨p, hp, rfl, hcn⟩ := ok_of hb (by omega)
    refine x_ifeq rfl (fun c => ?_) (fun c => absurd rfl c)
    refine x_al rfl rfl ?_
    refine x_il rfl rfl ?_
    refine x_al rfl rfl ?_
    refine x_get rfl (rw_md hn) (by exact rfl) ?_
    rw [hcn, if_pos rfl, if_pos rfl]
    generalize hP : likeF f nc p n 0 0 = P
    refine x_call3 (n_reads (Or.inl rfl) hF1 hp (h4 _ hp) hn) rfl (Nat.le_of_ble_eq_true rfl) (Or.inl (by first | exact hn | assumption)) (rcv_at (by first | exact rw_md hn | exact rw_w hn | exact rw_A hn (by exact rfl) | exact rw_B2 hn | exact rw_B3 hn | assumption) (by decide) (by decide)) (Nat.le_of_ble_eq_true rfl) (Nat.le_of_ble_eq_true rfl) (fun E w9 hq => hq.elim) ?_
    rintro v9 w9 ⟨rfl, rfl⟩
    refine x_is (lo' := [_, _, _, _, _, _, _, _, _]) rfl (Nat.le_of_ble_eq_true rfl) rfl ?_
    refine x_c rfl ?_
    refine x_is (lo' := [_, _, _, _, _, _, _, _, _]) rfl (Nat.le_of_ble_eq_true rfl) rfl ?_
    refine x_c rfl ?_
    refine x_is (lo' := [_, _, _, _, _, _, _, _, _]) rfl (Nat.le_of_ble_eq_true rfl) rfl ?_
    obtain ⟨l1, l2⟩ := reads_L (f := f) (c := p) (row := B 1432)
    generalize hmine : readsF f p (B 1432) = mine at *
    have l16 := h16 p hp
    have loop : ∀ c, c ≤ nc → ∀ a (B1 : Nat → Nat → Int64) l6 l7 l8, B1 1432 = mine.2 → a ≤ c → likeF f nc p n c a = P → EX g mbOf (Ev g (d + 12)) (infoOf 247) k_X11_like (OpQ w m f A (some (.int P)) 0) noX w.1 (rW w (upd m 0 0) f A B1) 0 0 22 [some (.ref 1424), some (.int (nI p)), some (.int n), some (.int (nI mine.1)), some (.int (nI a)), some (.int (nI c)), l6, l7, l8] [] := by
      refine downN nc fun c hc ih => ?_
      intro a B1 l6 l7 l8 hB hac hR
      unfold likeF at hR
      refine x_il rfl rfl ?_
      refine x_al rfl rfl ?_
      refine x_get rfl (rw_md hn) (by exact rfl) ?_
      refine x_c rfl ?_
      refine x_iaN (j := 6606) rfl (by first | exact rw_md hn | exact rw_w hn | exact rw_A hn (by exact rfl) | exact rw_B2 hn | exact rw_B3 hn | assumption) (by omega) ?_
      rw [hF1.1]
      refine x_icgeN rfl (by omega) (fun c0 => ?_) (fun c0 => ?_)
      · refine x_c rfl ?_
        refine x_reti rfl (Nat.le_of_ble_eq_true rfl) (Nat.le_of_ble_eq_true rfl) rfl ?_
        rw [it_end c0] at hR
        subst hR
        exact opq_k keepS_r keepB_r
      refine x_il rfl rfl ?_
      refine x_il rfl rfl ?_
      have next : ∀ a' (B2 : Nat → Nat → Int64) l6 l7 l8, B2 1432 = mine.2 → a' ≤ c + 1 → likeF f nc p n (c + 1) a' = P → EX g mbOf (Ev g (d + 12)) (infoOf 247) k_X11_like (OpQ w m f A (some (.int P)) 0) noX w.1 (rW w (upd m 0 0) f A B2) 0 0 82 [some (.ref 1424), some (.int (nI p)), some (.int n), some (.int (nI mine.1)), some (.int (nI a')), some (.int (nI c)), l6, l7, l8] [] := by
        intro a' B2 l6 l7 l8 h1 h2 h3
        refine x_inc1 (lo' := [_, _, _, _, _, _, _, _, _]) rfl rfl rfl ?_
        refine x_go rfl ?_
        exact ih c0 _ _ _ _ _ h1 h2 h3
      have skip : (c = p ∨ ¬ f (6607 + 26 * c + 2) < 0 ∨ shB (rdL f p) (rdL f c) ((rdL f p).1 * (rdL f c).1) = false) → ∀ (B2 : Nat → Nat → Int64) l6 l7 l8, B2 1432 = mine.2 → EX g mbOf (Ev g (d + 12)) (infoOf 247) k_X11_like (OpQ w m f A (some (.int P)) 0) noX w.1 (rW w (upd m 0 0) f A B2) 0 0 82 [some (.ref 1424), some (.int (nI p)), some (.int n), some (.int (nI mine.1)), some (.int (nI a)), some (.int (nI c)), l6, l7, l8] [] := by
        intro h B2 l6 l7 l8 hB2
        rw [it_go c0 (s' := a) (by unfold likeS; rw [if_pos h])] at hR
        exact next a B2 _ _ _ hB2 (by omega) hR
      refine x_iceqN rfl (by omega) (fun c1 => ?_) (fun c1 => ?_)
      · skip
        exact skip (Or.inl c1) _ _ _ _ hB
      refine x_al rfl rfl ?_
      refine x_il rfl rfl ?_
      refine x_call2 (n_isFiled (by omega) hn) rfl (Nat.le_of_ble_eq_true rfl) (Or.inl (by first | exact hn | assumption)) (rcv_at (by first | exact rw_md hn | exact rw_w hn | exact rw_A hn (by exact rfl) | exact rw_B2 hn | exact rw_B3 hn | assumption) (by decide) (by decide)) (Nat.le_of_ble_eq_true rfl) (Nat.le_of_ble_eq_true rfl) (fun E w9 hq => hq.elim) ?_
      rintro v9 w9 ⟨rfl, rfl⟩
      refine x_ifneB rfl (fun c2 => ?_) (fun c2 => ?_)
      rotate_left
      · refine x_go rfl ?_
        exact skip (Or.inr (Or.inl c2)) _ _ _ _ hB
      refine x_al rfl rfl ?_
      refine x_il rfl rfl ?_
      refine x_al rfl rfl ?_
      refine x_get rfl (rw_md hn) (by exact rfl) ?_
      refine x_call3 (n_reads (Or.inr rfl) hF1 c0 (h4 _ c0) hn) rfl (Nat.le_of_ble_eq_true rfl) (Or.inl (by first | exact hn | assumption)) (rcv_at (by first | exact rw_md hn | exact rw_w hn | exact rw_A hn (by exact rfl) | exact rw_B2 hn | exact rw_B3 hn | assumption) (by decide) (by decide)) (Nat.le_of_ble_eq_true rfl) (Nat.le_of_ble_eq_true rfl) (fun E w9 hq => hq.elim) ?_
      rintro v9 w9 ⟨rfl, rfl⟩
      refine x_is (lo' := [_, _, _, _, _, _, _, _, _]) rfl (Nat.le_of_ble_eq_true rfl) rfl ?_
      refine x_c rfl ?_
      refine x_is (lo' := [_, _, _, _, _, _, _, _, _]) rfl (Nat.le_of_ble_eq_true rfl) rfl ?_
      refine x_c rfl ?_
      refine x_is (lo' := [_, _, _, _, _, _, _, _, _]) rfl (Nat.le_of_ble_eq_true rfl) rfl ?_
      obtain ⟨t1, t2⟩ := reads_L (f := f) (c := c) (row := B1 1433)
      generalize hth : readsF f c (B1 1433) = th at *
      have t16 := h16 c c0
      have hB2 : udB B1 1433 th.2 1432 = mine.2 := hB
      have hB3 : udB B1 1433 th.2 1433 = th.2 := if_pos rfl
      have inner : ∀ k, k ≤ mine.1 * th.1 → EX g mbOf (Ev g (d + 12)) (infoOf 247) k_X11_like (OpQ w m f A (some (.int P)) 0) noX w.1 (rW w (upd m 0 0) f A (udB B1 1433 th.2)) 0 0 46 [some (.ref 1424), some (.int (nI p)), some (.int n), some (.int (nI mine.1)), some (.int (nI a)), some (.int (nI c)), some (.int (nI th.1)), some (.int (bI (shB (rdL f p) (rdL f c) k))), some (.int (nI k))] [] := by
        refine downN (mine.1 * th.1) fun k hk ihk => ?_
        have hmul : mine.1 * th.1 ≤ 16 * 16 := Nat.mul_le_mul (by omega) (by omega)
        refine x_il rfl rfl ?_
        refine x_il rfl rfl ?_
        refine x_il rfl rfl ?_
        refine x_mulN rfl ?_
        refine x_icgeN rfl (by omega) (fun c3 => ?_) (fun c3 => ?_)
        · refine x_il rfl rfl ?_
          obtain rfl : k = mine.1 * th.1 := by omega
          rw [show mine.1 * th.1 = (rdL f p).1 * (rdL f c).1 by rw [l1, t1]]
          cases hs : shB (rdL f p) (rdL f c) ((rdL f p).1 * (rdL f c).1) with
          | false =>
            refine x_ifne rfl (fun cx => absurd rfl cx) (fun cx => ?_)
            refine x_go rfl ?_
            exact skip (Or.inr (Or.inr hs)) _ _ _ _ hB2
          | true =>
            have hst : likeS f p n c a = if nI a = n then .inr (nI c) else .inl (a + 1) := if_neg (fun h => h.elim c1 (fun h => h.elim (fun h => h c2) (fun h => by rw [hs] at h; cases h)))
            refine x_ifne rfl (fun cx => ?_) (fun cx => absurd cx (show ¬ (1 : Int32) = 0 by decide))
            refine x_il rfl rfl ?_
            refine x_il rfl rfl ?_
            refine x_icne rfl (fun c4 => ?_) (fun c4 => ?_)
            · refine x_inc1 (lo' := [_, _, _, _, _, _, _, _, _]) rfl rfl rfl ?_
              rw [it_go c0 (s' := a + 1) (by rw [hst, if_neg c4])] at hR
              exact next (a + 1) _ _ _ _ hB2 (by omega) hR
            refine x_il rfl rfl ?_
            refine x_reti rfl (Nat.le_of_ble_eq_true rfl) (Nat.le_of_ble_eq_true rfl) rfl ?_
            rw [it_ret c0 (r := nI c) (by rw [hst, if_pos c4])] at hR
            subst hR
            exact opq_k keepS_r keepB_r
        refine x_il rfl rfl ?_
        have hpos : 0 < th.1 := by
          rcases Nat.eq_zero_or_pos th.1 with h | h
          · rw [h] at c3; omega
          · exact h
        have hdiv : k / th.1 < mine.1 := Nat.div_lt_of_lt_mul (by rw [Nat.mul_comm]; exact c3)
        have hmod : k % th.1 < th.1 := Nat.mod_lt _ hpos
        have ihk := ihk c3
        have fin : ∀ z : Bool, z = shB (rdL f p) (rdL f c) (k + 1) → EX g mbOf (Ev g (d + 12)) (infoOf 247) k_X11_like (OpQ w m f A (some (.int P)) 0) noX w.1 (rW w (upd m 0 0) f A (udB B1 1433 th.2)) 0 0 70 [some (.ref 1424), some (.int (nI p)), some (.int n), some (.int (nI mine.1)), some (.int (nI a)), some (.int (nI c)), some (.int (nI th.1)), some (.int (bI (shB (rdL f p) (rdL f c) k))), some (.int (nI k))] [.int (bI z)] := by
          intro z hz
          rw [← hz] at ihk
          refine x_is (lo' := [_, _, _, _, _, _, _, _, _]) rfl (Nat.le_of_ble_eq_true rfl) rfl ?_
          refine x_inc1 (lo' := [_, _, _, _, _, _, _, _, _]) rfl rfl rfl ?_
          refine x_go rfl ?_
          exact ihk
        have hstep : shB (rdL f p) (rdL f c) (k + 1) = (shB (rdL f p) (rdL f c) k || (mine.2 (k / th.1) == th.2 (k % th.1))) := by
          show (shB (rdL f p) (rdL f c) k || ((rdL f p).2 (k / (rdL f c).1) == (rdL f c).2 (k % (rdL f c).1))) = _
          rw [← t1, l2 _ hdiv, t2 _ hmod]
        rw [hstep] at fin
        cases hs : shB (rdL f p) (rdL f c) k with
        | true =>
          rw [hs] at fin
          refine x_ifne rfl (fun cx => ?_) (fun cx => absurd cx (show ¬ (1 : Int32) = 0 by decide))
          refine x_c rfl ?_
          refine x_go rfl ?_
          exact fin true rfl
        | false =>
          rw [hs] at fin
          refine x_ifne rfl (fun cx => absurd rfl cx) (fun cx => ?_)
          refine x_al rfl rfl ?_
          refine x_get rfl (rw_md hn) (by exact rfl) ?_
          refine x_il rfl rfl ?_
          refine x_il rfl rfl ?_
          refine x_divN rfl (by omega) ?_
          refine x_laN rfl (by first | exact rw_md hn | exact rw_w hn | exact rw_A hn (by exact rfl) | exact rw_B2 hn | exact rw_B3 hn | assumption) (by omega) ?_
          refine x_al rfl rfl ?_
          refine x_get rfl (rw_md hn) (by exact rfl) ?_
          refine x_il rfl rfl ?_
          refine x_il rfl rfl ?_
          rw [hB2]
          refine x_remN rfl (by omega) ?_
          refine x_laN rfl (by first | exact rw_md hn | exact rw_w hn | exact rw_A hn (by exact rfl) | exact rw_B2 hn | exact rw_B3 hn | assumption) (by omega) ?_
          refine x_lcmp rfl ?_
          rw [hB3]
          refine x_ifne rfl (fun c4 => ?_) (fun c4 => ?_)
          · refine x_c rfl ?_
            exact fin false (by rw [show (mine.2 (k / th.1) == th.2 (k % th.1)) = false by simpa using fun h => c4 (lcmp_z.mpr h)]; rfl)
          refine x_c rfl ?_
          refine x_go rfl ?_
          exact fin true (by rw [show (mine.2 (k / th.1) == th.2 (k % th.1)) = true by simpa using lcmp_z.mp c4]; rfl)
      exact inner 0 (Nat.zero_le _)
    exact loop 0 (Nat.zero_le _) 0 _ _ _ _ (if_pos rfl) (Nat.le_refl _) hP
end CALLS
