/-! lays of the class: pairs, points against; cw_ -/
/-- whoever is not held is marked by -1 -/
def NegM (h : Nat → Int32) : Prop := ∀ j, j < 8 → h j < 0 → h j = -1
theorem seek_m1 {may : Nat → Int32} {many : Nat} : ∀ k i (s : skS), i < 2 ^ 31 → NegM s.2 → NegM (seekF may many k i s).2.2 := by
  intro k
  induction k with
  | zero => intro i s _ h; exact h
  | succ k ih =>
    intro i s hi h
    unfold seekF
    refine it_inv (I := fun s : skS => NegM s.2) (R := fun r : Bool × skS => NegM r.2.2) ?_ ?_ ?_ 0 (Nat.zero_le _) s h
    · intro c s s' hc hI hs
      unfold seekS at hs
      split at hs
      · cases hs; exact hI
      · split at hs
        · cases hs
        · split at hs
          · cases hs
          · cases hs
            exact ih _ (sb s.1 c, s.2) (Int32.toNatClampNeg_lt _) hI
    · intro c s r hc hI hs
      have up : ∀ h : Nat → Int32, NegM h → NegM (upd h c (nI i)) := by
        intro h hh j hj hlt
        by_cases e : j = c
        · subst e
          rw [upd_at] at hlt
          exact absurd hlt (nI_pos hi)
        · rw [upd_ne e] at hlt ⊢
          exact hh j hj hlt
      unfold seekS at hs
      split at hs
      · cases hs
      · split at hs
        · cases hs
          exact up _ hI
        · split at hs
          · cases hs
            exact up _ (ih _ (sb s.1 c, s.2) (Int32.toNatClampNeg_lt _) hI)
          · cases hs
    · intro s hI
      exact hI
/-- the row of bits of what may pair, met by one bit -/
theorem and_bit {x : Int32} {j : Nat} (hj : j < 31) : (x &&& (1 <<< (nI j &&& 31)) = 0) ↔ bt x j = false := by
  have hb : ∀ k, k < 32 → bt (x &&& (1 <<< (nI j &&& 31))) k = (bt x k && decide (j = k)) := by
    intro k hk
    have h1 := bt_1 (k := j) (j := k) (by omega) hk
    unfold bt at h1 ⊢
    rw [← h1]
    show (x.toBitVec &&& (1 <<< (nI j &&& 31) : Int32).toBitVec).getLsbD k = _
    rw [BitVec.getLsbD_and]
  constructor
  · intro h
    have := hb j (by omega)
    rw [h, bt_0] at this
    simpa using this.symm
  · intro h
    apply Int32.toBitVec_inj.mp
    apply BitVec.eq_of_getLsbD_eq
    intro k hk
    have := hb k hk
    unfold bt at this
    rw [this]
    by_cases e : j = k
    · subst e
      unfold bt at h
      rw [h]
      simp
    · simp [e]
section CALLS
variable {g : aG} {d : Nat} {w : aW} {F A : Nat → Nat → Int32} {L : Nat → Int64} {f : Nat → Int32}
def pairW (w : aW) (F A : Nat → Nat → Int32) (L : Nat → Int64) (tr : Int32) (ho : Nat → Int32) : aW := cW w (udA F 1396 (upd (F 1396) 9 tr)) (udA A 1403 ho) L
theorem c_pair {ours : Nat} (ho8 : ours ≤ 8) (hn : w.1 = N0) : ∀ k dp tr ho i, dp + k = 9 → i < ours → HoOk ours 8 ho → NegM ho → Ev g (d + k + 1) 24 [.ref 1396, .int (nI i), .int (nI dp)] (pairW w F A L tr ho) (fun v w' => v = some (.int (bI (seekF (A 1402) 8 k i (tr, ho)).1)) ∧ w' = pairW w F A L (seekF (A 1402) 8 k i (tr, ho)).2.1 (seekF (A 1402) 8 k i (tr, ho)).2.2) noX := by
  unfold pairW
  intro k
  induction k with
  | zero =>
    intro dp tr ho i hdk hi hh hm
    refine ev_X2_pair ?_ (Nat.le_of_ble_eq_true rfl)
    refine x_lo (lo' := [some (.ref 1396), some (.int (nI i)), some (.int (nI dp)), none, none]) rfl ?_
    refine x_il rfl rfl ?_
    refine x_iflt rfl (fun c => absurd c (nI_pos (by omega))) (fun c => ?_)
    refine x_il rfl rfl ?_
    refine x_c rfl ?_
    refine x_icgeN (y := 8) rfl (by omega) (fun c => absurd c (by omega)) (fun c => ?_)
    refine x_il rfl rfl ?_
    refine x_c rfl ?_
    refine x_icleN (y := 8) rfl (by omega) (fun c => absurd c (by omega)) (fun c => ?_)
    refine x_c rfl ?_
    refine x_retz rfl (Nat.le_of_ble_eq_true rfl) (Nat.le_of_ble_eq_true rfl) rfl (by first | rfl | assumption) ?_
    exact ⟨rfl, rfl⟩
  | succ k IH =>
    intro dp tr ho i hdk hi hh hm
    refine ev_X2_pair ?_ (Nat.le_of_ble_eq_true rfl)
    refine x_lo (lo' := [some (.ref 1396), some (.int (nI i)), some (.int (nI dp)), none, none]) rfl ?_
    refine x_il rfl rfl ?_
    refine x_iflt rfl (fun c => absurd c (nI_pos (by omega))) (fun c => ?_)
    refine x_il rfl rfl ?_
    refine x_c rfl ?_
    refine x_icgeN (y := 8) rfl (by omega) (fun c => absurd c (by omega)) (fun c => ?_)
    refine x_il rfl rfl ?_
    refine x_c rfl ?_
    refine x_icleN (y := 8) rfl (by omega) (fun c => ?_) (fun c => absurd c (by omega))
    refine x_c rfl ?_
    refine x_is (lo' := [_, _, _, _, _]) rfl (Nat.le_of_ble_eq_true rfl) rfl ?_
    generalize hR : seekF (A 1402) 8 (k + 1) i (tr, ho) = R
    have loop : ∀ j, j ≤ 8 → ∀ tr1 ho1 l4, HoOk ours 8 ho1 → NegM ho1 → it 8 (seekS (seekF (A 1402) 8 k) (A 1402 i) i) (fun s => (false, s)) j (tr1, ho1) = R → EX g mbOf (Ev g (d + (k + 1))) (infoOf 24) k_X2_pair (fun v w' => v = some (.int (bI R.1)) ∧ w' = cW w (udA F 1396 (upd (F 1396) 9 R.2.1)) (udA A 1403 R.2.2) L) noX w.1 (cW w (udA F 1396 (upd (F 1396) 9 tr1)) (udA A 1403 ho1) L) 0 0 12 [some (.ref 1396), some (.int (nI i)), some (.int (nI dp)), some (.int (nI j)), l4] [] := by
      refine downN 8 fun j hj ih => ?_
      intro tr1 ho1 l4 h1 m1 e
      refine x_il rfl rfl ?_
      refine x_c rfl ?_
      refine x_icgeN (y := 8) rfl (by omega) (fun c => ?_) (fun c => ?_)
      · refine x_c rfl ?_
        refine x_retz rfl (Nat.le_of_ble_eq_true rfl) (Nat.le_of_ble_eq_true rfl) rfl (by first | rfl | assumption) ?_
        rw [it_end c] at e
        subst e
        exact ⟨rfl, rfl⟩
      refine x_c rfl ?_
      refine x_il rfl rfl ?_
      refine x_shl rfl ?_
      refine x_is (lo' := [_, _, _, _, _]) rfl (Nat.le_of_ble_eq_true rfl) rfl ?_
      refine x_al rfl rfl ?_
      refine x_getC rfl hn (by with_reducible exact sp_1396) (by exact rfl) ?_
      refine x_il rfl rfl ?_
      refine x_iaC rfl hn (by with_reducible exact sp_1402) (by omega) ?_
      refine x_il rfl rfl ?_
      refine x_and rfl ?_
      rw [show udA A 1403 ho1 1402 i = A 1402 i from rfl]
      have skip : bt (A 1402 i) j = false ∨ bt tr1 j = true → ∀ l4, EX g mbOf (Ev g (d + (k + 1))) (infoOf 24) k_X2_pair (fun v w' => v = some (.int (bI R.1)) ∧ w' = cW w (udA F 1396 (upd (F 1396) 9 R.2.1)) (udA A 1403 R.2.2) L) noX w.1 (cW w (udA F 1396 (upd (F 1396) 9 tr1)) (udA A 1403 ho1) L) 0 0 61 [some (.ref 1396), some (.int (nI i)), some (.int (nI dp)), some (.int (nI j)), l4] [] := by
        intro hs l4
        refine x_inc1 (lo' := [_, _, _, _, _]) rfl rfl rfl ?_
        refine x_go rfl ?_
        refine ih c tr1 ho1 _ h1 m1 ?_
        rw [← e, it_go c (if_pos hs)]
      refine x_ifeq rfl (fun c1 => ?_) (fun c1 => ?_)
      · skip
        exact skip (Or.inl ((and_bit (by omega)).mp c1)) _
      refine x_al rfl rfl ?_
      refine x_getC rfl hn (by with_reducible exact sp_1396) (by exact rfl) ?_
      refine x_il rfl rfl ?_
      refine x_and rfl ?_
      rw [show udA F 1396 (upd (F 1396) 9 tr1) 1396 9 = tr1 from rfl]
      have c1 : ¬ bt (A 1402 i) j = false := fun h => c1 ((and_bit (by omega)).mpr h)
      refine x_ifeq rfl (fun c2 => ?_) (fun c2 => ?_)
      rotate_left
      · refine x_go rfl ?_
        refine skip (Or.inr ?_) _
        cases hb : bt tr1 j with
        | true => rfl
        | false => exact absurd ((and_bit (by omega)).mpr hb) c2
      refine x_al rfl rfl ?_
      refine x_dup rfl rfl ?_
      refine x_getC rfl hn (by with_reducible exact sp_1396) (by exact rfl) ?_
      refine x_il rfl rfl ?_
      refine x_or rfl ?_
      refine x_putC rfl hn (by with_reducible exact sp_1396) (by exact rfl) (by first | rfl | exact nr_z (by assumption)) rfl ?_
      refine x_al rfl rfl ?_
      refine x_getC rfl hn (by with_reducible exact sp_1396) (by exact rfl) ?_
      refine x_il rfl rfl ?_
      refine x_iaC rfl hn (by with_reducible exact sp_1403) (by omega) ?_
      refine x_c rfl ?_
      have c2 : ¬ bt tr1 j = true := fun h => by rw [(and_bit (by omega)).mp c2] at h; cases h
      have hst : ¬ (bt (A 1402 i) j = false ∨ bt tr1 j = true) := fun h => h.elim c1 c2
      have eW : udA (udA F 1396 (upd (F 1396) 9 tr1)) 1396 (upd (udA F 1396 (upd (F 1396) 9 tr1) 1396) 9 (udA F 1396 (upd (F 1396) 9 tr1) 1396 9 ||| 1 <<< (nI j &&& 31))) = udA F 1396 (upd (F 1396) 9 (sb tr1 j)) := by
        rw [udA_udA, udA_t, upd_upd, upd_at]
        rfl
      rw [eW, show udA A 1403 ho1 1403 j = ho1 j from rfl]
      have fin : ∀ tr2 ho2 l4, it 8 (seekS (seekF (A 1402) 8 k) (A 1402 i) i) (fun s => (false, s)) j (tr1, ho1) = (true, tr2, upd ho2 j (nI i)) → EX g mbOf (Ev g (d + (k + 1))) (infoOf 24) k_X2_pair (fun v w' => v = some (.int (bI R.1)) ∧ w' = cW w (udA F 1396 (upd (F 1396) 9 R.2.1)) (udA A 1403 R.2.2) L) noX w.1 (cW w (udA F 1396 (upd (F 1396) 9 tr2)) (udA A 1403 ho2) L) 0 0 54 [some (.ref 1396), some (.int (nI i)), some (.int (nI dp)), some (.int (nI j)), l4] [] := by
        intro tr2 ho2 l4 e2
        refine x_al rfl rfl ?_
        refine x_getC rfl hn (by with_reducible exact sp_1396) (by exact rfl) ?_
        refine x_il rfl rfl ?_
        refine x_il rfl rfl ?_
        refine x_iasC rfl hn (by with_reducible exact sp_1403) (by omega) ?_
        refine x_c rfl ?_
        refine x_retz rfl (Nat.le_of_ble_eq_true rfl) (Nat.le_of_ble_eq_true rfl) rfl (by first | rfl | assumption) ?_
        rw [e2] at e
        subst e
        exact ⟨rfl, by rw [udA_udA, udA_t]⟩
      refine x_iceq rfl (fun c3 => ?_) (fun c3 => ?_)
      · skip
        refine fin _ _ _ ?_
        rw [it_ret c (r := (true, sb tr1 j, upd ho1 j (nI i))) (by unfold seekS; rw [if_neg hst, if_pos (show ho1 j < 0 by rw [c3]; decide)])]
      refine x_al rfl rfl ?_
      refine x_al rfl rfl ?_
      refine x_getC rfl hn (by with_reducible exact sp_1396) (by exact rfl) ?_
      refine x_il rfl rfl ?_
      refine x_iaC rfl hn (by with_reducible exact sp_1403) (by omega) ?_
      rcases h1 j c with h3 | ⟨i', hi', e'⟩
      · exact absurd (m1 j c h3) c3
      have c3' : ¬ ho1 j < 0 := by rw [e']; exact nI_pos (by omega)
      rw [show udA A 1403 ho1 1403 j = ho1 j from rfl, e']
      refine x_il rfl rfl ?_
      refine x_c rfl ?_
      refine x_addN (y := 1) rfl ?_
      refine x_call3 (IH (dp + 1) (sb tr1 j) ho1 i' (by omega) hi' h1 m1) rfl (Nat.le_of_ble_eq_true rfl) (Or.inl (by first | exact hn | assumption)) (rcv_at (cw_fs (by with_reducible exact sp_1396) hn) (by decide) (by decide)) (Nat.le_of_ble_eq_true rfl) (Nat.le_of_ble_eq_true rfl) (fun E w9 hq => hq.elim) ?_
      rintro v9 w9 ⟨rfl, rfl⟩
      have hs : seekS (seekF (A 1402) 8 k) (A 1402 i) i j (tr1, ho1) = if (seekF (A 1402) 8 k i' (sb tr1 j, ho1)).1 = true then .inr (true, (seekF (A 1402) 8 k i' (sb tr1 j, ho1)).2.1, upd (seekF (A 1402) 8 k i' (sb tr1 j, ho1)).2.2 j (nI i)) else .inl (seekF (A 1402) 8 k i' (sb tr1 j, ho1)).2 := by
        unfold seekS
        rw [if_neg hst, if_neg c3']
        simp only [e', nI_clamp (show i' < 2 ^ 31 by omega)]
      have inv := seek_inv (may := A 1402) ho8 (Nat.le_refl 8) k i' hi' (sb tr1 j, ho1) h1
      have inv2 := seek_m1 (may := A 1402) (many := 8) k i' (sb tr1 j, ho1) (by omega) m1
      generalize seekF (A 1402) 8 k i' (sb tr1 j, ho1) = r at *
      obtain ⟨r1, r2, r3⟩ := r
      refine x_ifeq rfl (fun c4 => ?_) (fun c4 => ?_)
      · skip
        refine x_inc1 (lo' := [_, _, _, _, _]) rfl rfl rfl ?_
        refine x_go rfl ?_
        refine ih c r2 r3 _ inv.2 inv2 ?_
        rw [← e, it_go c (s' := (r2, r3)) (by rw [hs, if_neg (by rw [bI_z.mp c4]; decide)])]
      have hr : r1 = true := by cases r1 with
        | true => rfl
        | false => exact absurd rfl c4
      refine fin r2 r3 _ ?_
      rw [it_ret c (by rw [hs, if_pos hr])]
    exact loop 0 (Nat.zero_le _) tr ho _ hh hm (by rw [← hR]; rfl)
/-- the points against a lay -/
theorem c_countAgainst {l a b ours th t : Nat} {x0 y0 x1 y1 sx sy : Int32} {row : Nat → Int32} (hl : ShAt l) (hd : l + 4 < 1396) (hT : TuD F A f a ours t x0 y0 x1 y1) (hL : LoD F A f l b th) (hrc : F l 5 = 0 ∧ F l 6 = 0 ∧ F l 7 = 63 ∧ F l 8 = 63) (hrow : ∀ i, i < ours → A 1402 i = row i) (ho8 : ours ≤ 8) (hm8 : th ≤ 8) (hn : w.1 = N0) : Ev g (d + 2) 25 [.ref 1396, .ref l, .int sx, .int sy] (cW w F A L) (RetQ (nI (cn (agA row f a (nI t) sx sy) ours + cn (agB (allB row ours) f b x0 y0 x1 y1 (nI t) sx sy) th)) (cW w F A L)) noX := by
  obtain ⟨t4, ⟨t5, t6, t7, t8⟩, ta⟩ := hT
  obtain ⟨l4, la⟩ := hL
  obtain ⟨r5, r6, r7, r8⟩ := hrc
  have loop2 : ∀ j, j ≤ th → ∀ N : Nat, N ≤ 8 → EX g mbOf (Ev g (d + 1)) (infoOf 25) k_X2_countAgainst (RetQ (nI (N + cn (agB (allB row ours) f b x0 y0 x1 y1 (nI t) sx sy) th)) (cW w F A L)) noX w.1 (cW w F A L) 0 0 45 [some (.ref 1396), some (.ref l), some (.int sx), some (.int sy), some (.int (nI (N + cn (agB (allB row ours) f b x0 y0 x1 y1 (nI t) sx sy) j))), some (.int (allB row ours)), some (.int (nI j))] [] := by
    refine downN th fun j hj ih => ?_
    intro N hN
    have hcn := cn_le (agB (allB row ours) f b x0 y0 x1 y1 (nI t) sx sy) j
    refine x_il rfl rfl ?_
    refine x_al rfl rfl ?_
    refine x_getC rfl hn (by with_reducible exact sh_0 (by first | assumption | exact sh_turned | exact pr_sh (by first | assumption | exact prA (by omega) | exact prD | exact prB (by assumption) (by omega)) | exact ma_sh (by first | assumption | exact maA (by omega) | exact maB (by assumption) (by omega)))) (by exact rfl) ?_
    rw [l4]
    refine x_icgeN rfl (by omega) (fun c => ?_) (fun c => ?_)
    · refine x_il rfl rfl ?_
      refine x_reti rfl (Nat.le_of_ble_eq_true rfl) (Nat.le_of_ble_eq_true rfl) rfl ?_
      obtain rfl : j = th := by omega
      exact ⟨rfl, rfl⟩
    refine x_il rfl rfl ?_
    refine x_il rfl rfl ?_
    refine x_shr rfl ?_
    refine x_c rfl ?_
    refine x_and rfl ?_
    obtain ⟨bx, by_, _, _⟩ := la j c
    rw [bt_shr (by omega)]
    have e2 : b + 2 + 4 * j = b + 1 + 4 * j + 1 := by omega
    have ih := ih c N hN
    refine x_ifne rfl (fun c1 => ?_) (fun c1 => ?_)
    · skip
      refine x_inc1 (lo' := [_, _, _, _, _, _, _]) rfl rfl rfl ?_
      refine x_go rfl ?_
      rw [cn_f (by unfold agB; rw [decide_eq_true_iff]; intro h; exact c1 (bI_z.mpr h.1))] at ih
      exact ih
    refine x_al rfl rfl ?_
    refine x_getC rfl hn (by with_reducible exact sp_1396) (by exact rfl) ?_
    refine x_al rfl rfl ?_
    refine x_getC rfl hn (by with_reducible exact sh_0 (by first | assumption | exact sh_turned | exact pr_sh (by first | assumption | exact prA (by omega) | exact prD | exact prB (by assumption) (by omega)) | exact ma_sh (by first | assumption | exact maA (by omega) | exact maB (by assumption) (by omega)))) (by exact rfl) ?_
    refine x_il rfl rfl ?_
    refine x_iaC rfl hn (by with_reducible exact sh_1 (by first | assumption | exact sh_turned | exact pr_sh (by first | assumption | exact prA (by omega) | exact prD | exact prB (by assumption) (by omega)) | exact ma_sh (by first | assumption | exact maA (by omega) | exact maB (by assumption) (by omega)))) (by omega) ?_
    refine x_il rfl rfl ?_
    refine x_sub rfl ?_
    refine x_al rfl rfl ?_
    refine x_getC rfl hn (by with_reducible exact sh_0 (by first | assumption | exact sh_turned | exact pr_sh (by first | assumption | exact prA (by omega) | exact prD | exact prB (by assumption) (by omega)) | exact ma_sh (by first | assumption | exact maA (by omega) | exact maB (by assumption) (by omega)))) (by exact rfl) ?_
    refine x_il rfl rfl ?_
    refine x_iaC rfl hn (by with_reducible exact sh_2 (by first | assumption | exact sh_turned | exact pr_sh (by first | assumption | exact prA (by omega) | exact prD | exact prB (by assumption) (by omega)) | exact ma_sh (by first | assumption | exact maA (by omega) | exact maB (by assumption) (by omega)))) (by omega) ?_
    refine x_il rfl rfl ?_
    refine x_sub rfl ?_
    rw [bx, by_]
    refine x_call3 (c_isClear sh_turned hn) rfl (Nat.le_of_ble_eq_true rfl) (Or.inl (by first | exact hn | assumption)) (rcv_at (cw_fs (by with_reducible exact sh_0 (by first | assumption | exact sh_turned | exact pr_sh (by first | assumption | exact prA (by omega) | exact prD | exact prB (by assumption) (by omega)) | exact ma_sh (by first | assumption | exact maA (by omega) | exact maB (by assumption) (by omega)))) hn) (by decide) (by decide)) (Nat.le_of_ble_eq_true rfl) (Nat.le_of_ble_eq_true rfl) (fun E w9 hq => hq.elim) ?_
    rintro v9 w9 ⟨rfl, rfl⟩
    refine x_ifeqB rfl (fun c2 => ?_) (fun c2 => ?_)
    · skip
      refine x_inc1 (lo' := [_, _, _, _, _, _, _]) rfl rfl rfl ?_
      refine x_go rfl ?_
      rw [cn_f (by unfold agB; rw [decide_eq_true_iff]; intro h; refine c2 ?_; unfold clrH; rw [t5, t6, t7, t8]; unfold minI maxI; rw [← e2]; exact ⟨h.2.1.1, h.2.1.2, h.2.2.1, h.2.2.2⟩)] at ih
      exact ih
    refine x_inc1 (lo' := [_, _, _, _, _, _, _]) rfl rfl rfl ?_
    refine x_inc1 (lo' := [_, _, _, _, _, _, _]) rfl rfl rfl ?_
    refine x_go rfl ?_
    rw [cn_t (by unfold agB; rw [decide_eq_true_iff]; refine ⟨bI_z.mp c1, ?_⟩; unfold clrH at c2; rw [t5, t6, t7, t8] at c2; unfold minI maxI at c2; rw [← e2] at c2; exact ⟨⟨c2.1, c2.2.1⟩, c2.2.2.1, c2.2.2.2⟩)] at ih
    exact ih
  have loop1 : ∀ i, i ≤ ours → EX g mbOf (Ev g (d + 1)) (infoOf 25) k_X2_countAgainst (RetQ (nI (cn (agA row f a (nI t) sx sy) ours + cn (agB (allB row ours) f b x0 y0 x1 y1 (nI t) sx sy) th)) (cW w F A L)) noX w.1 (cW w F A L) 0 0 6 [some (.ref 1396), some (.ref l), some (.int sx), some (.int sy), some (.int (nI (cn (agA row f a (nI t) sx sy) i))), some (.int (allB row i)), some (.int (nI i))] [] := by
    refine downN ours fun i hi ih => ?_
    have hcn := cn_le (agA row f a (nI t) sx sy) i
    refine x_il rfl rfl ?_
    refine x_al rfl rfl ?_
    refine x_getC rfl hn (by with_reducible exact sp_1396) (by exact rfl) ?_
    refine x_getC rfl hn (by with_reducible exact sh_0 (by first | assumption | exact sh_turned | exact pr_sh (by first | assumption | exact prA (by omega) | exact prD | exact prB (by assumption) (by omega)) | exact ma_sh (by first | assumption | exact maA (by omega) | exact maB (by assumption) (by omega)))) (by exact rfl) ?_
    rw [t4]
    refine x_icgeN rfl (by omega) (fun c => ?_) (fun c => ?_)
    · refine x_c rfl ?_
      refine x_is (lo' := [_, _, _, _, _, _, _]) rfl (Nat.le_of_ble_eq_true rfl) rfl ?_
      obtain rfl : i = ours := by omega
      exact loop2 0 (Nat.zero_le _) _ (by omega)
    refine x_il rfl rfl ?_
    refine x_al rfl rfl ?_
    refine x_getC rfl hn (by with_reducible exact sp_1396) (by exact rfl) ?_
    refine x_il rfl rfl ?_
    refine x_iaC rfl hn (by with_reducible exact sp_1402) (by omega) ?_
    refine x_or rfl ?_
    refine x_is (lo' := [_, _, _, _, _, _, _]) rfl (Nat.le_of_ble_eq_true rfl) rfl ?_
    refine x_al rfl rfl ?_
    refine x_getC rfl hn (by with_reducible exact sp_1396) (by exact rfl) ?_
    refine x_il rfl rfl ?_
    refine x_iaC rfl hn (by with_reducible exact sp_1402) (by omega) ?_
    obtain ⟨ax, ay, _, _⟩ := ta i c
    have ih := ih c
    rw [show allB row (i + 1) = allB row i ||| row i from rfl] at ih
    rw [hrow i c]
    have ax : A (1397 + 1) i = _ := ax
    have ay : A (1397 + 2) i = _ := ay
    refine x_ifne rfl (fun c1 => ?_) (fun c1 => ?_)
    · skip
      refine x_inc1 (lo' := [_, _, _, _, _, _, _]) rfl rfl rfl ?_
      refine x_go rfl ?_
      rw [cn_f (by unfold agA; rw [decide_eq_true_iff]; exact fun h => c1 h.1)] at ih
      exact ih
    refine x_al rfl rfl ?_
    refine x_al rfl rfl ?_
    refine x_getC rfl hn (by with_reducible exact sp_1396) (by exact rfl) ?_
    refine x_getC rfl hn (by with_reducible exact sh_0 (by first | assumption | exact sh_turned | exact pr_sh (by first | assumption | exact prA (by omega) | exact prD | exact prB (by assumption) (by omega)) | exact ma_sh (by first | assumption | exact maA (by omega) | exact maB (by assumption) (by omega)))) (by exact rfl) ?_
    refine x_il rfl rfl ?_
    refine x_iaC rfl hn (by with_reducible exact sh_1 (by first | assumption | exact sh_turned | exact pr_sh (by first | assumption | exact prA (by omega) | exact prD | exact prB (by assumption) (by omega)) | exact ma_sh (by first | assumption | exact maA (by omega) | exact maB (by assumption) (by omega)))) (by omega) ?_
    refine x_il rfl rfl ?_
    refine x_add rfl ?_
    refine x_al rfl rfl ?_
    refine x_getC rfl hn (by with_reducible exact sp_1396) (by exact rfl) ?_
    refine x_getC rfl hn (by with_reducible exact sh_0 (by first | assumption | exact sh_turned | exact pr_sh (by first | assumption | exact prA (by omega) | exact prD | exact prB (by assumption) (by omega)) | exact ma_sh (by first | assumption | exact maA (by omega) | exact maB (by assumption) (by omega)))) (by exact rfl) ?_
    refine x_il rfl rfl ?_
    refine x_iaC rfl hn (by with_reducible exact sh_2 (by first | assumption | exact sh_turned | exact pr_sh (by first | assumption | exact prA (by omega) | exact prD | exact prB (by assumption) (by omega)) | exact ma_sh (by first | assumption | exact maA (by omega) | exact maB (by assumption) (by omega)))) (by omega) ?_
    refine x_il rfl rfl ?_
    refine x_add rfl ?_
    rw [ax, ay]
    refine x_call3 (c_isClear hl hn) rfl (Nat.le_of_ble_eq_true rfl) (Or.inl (by first | exact hn | assumption)) (rcv_at (cw_fs (by with_reducible exact sh_0 (by first | assumption | exact sh_turned | exact pr_sh (by first | assumption | exact prA (by omega) | exact prD | exact prB (by assumption) (by omega)) | exact ma_sh (by first | assumption | exact maA (by omega) | exact maB (by assumption) (by omega)))) hn) (by decide) (by decide)) (Nat.le_of_ble_eq_true rfl) (Nat.le_of_ble_eq_true rfl) (fun E w9 hq => hq.elim) ?_
    rintro v9 w9 ⟨rfl, rfl⟩
    refine x_ifeqB rfl (fun c2 => ?_) (fun c2 => ?_)
    · skip
      refine x_inc1 (lo' := [_, _, _, _, _, _, _]) rfl rfl rfl ?_
      refine x_go rfl ?_
      rw [cn_f (by unfold agA; rw [decide_eq_true_iff]; intro h; refine c2 ?_; unfold clrH; rw [r5, r6, r7, r8]; exact ⟨h.2.1.1, h.2.1.2, h.2.2.1, h.2.2.2⟩)] at ih
      exact ih
    refine x_inc1 (lo' := [_, _, _, _, _, _, _]) rfl rfl rfl ?_
    refine x_inc1 (lo' := [_, _, _, _, _, _, _]) rfl rfl rfl ?_
    refine x_go rfl ?_
    rw [cn_t (by unfold agA; rw [decide_eq_true_iff]; refine ⟨c1, ?_⟩; unfold clrH at c2; rw [r5, r6, r7, r8] at c2; exact ⟨⟨c2.1, c2.2.1⟩, c2.2.2.1, c2.2.2.2⟩)] at ih
    exact ih
  refine ev_X2_countAgainst ?_ (Nat.le_of_ble_eq_true rfl)
  refine x_lo (lo' := [some (.ref 1396), some (.ref l), some (.int sx), some (.int sy), none, none, none]) rfl ?_
  refine x_c rfl ?_
  refine x_is (lo' := [_, _, _, _, _, _, _]) rfl (Nat.le_of_ble_eq_true rfl) rfl ?_
  refine x_c rfl ?_
  refine x_is (lo' := [_, _, _, _, _, _, _]) rfl (Nat.le_of_ble_eq_true rfl) rfl ?_
  refine x_c rfl ?_
  refine x_is (lo' := [_, _, _, _, _, _, _]) rfl (Nat.le_of_ble_eq_true rfl) rfl ?_
  exact loop1 0 (Nat.zero_le _)
end CALLS
