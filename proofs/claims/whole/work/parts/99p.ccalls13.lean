/-! drawers and like; cw_ -/
section CALLS
variable {g : aG} {d : Nat} {w : aW} {F A : Nat → Nat → Int32} {L : Nat → Int64} {f : Nat → Int32} {np nm nc nt ns nh v : Nat}
theorem nI_cn {a b : Nat} (ha : a < 2 ^ 31) (hb : b < 2 ^ 31) (h : nI a = nI b) : a = b := by
  have h3 := congrArg cN h
  rw [show cN (nI a) = a from nI_clamp (by omega), show cN (nI b) = b from nI_clamp (by omega)] at h3
  exact h3
/-- how many unlike readings there are, of the class and of the formula -/
theorem drw_eq {c n : Nat} {e : Nat → Nat} {row : Nat → Int64} (hI : IV f np nm nc nt ns nh) (hc : c < nc) (h : EN n e (fun x => ∃ j, j < nD f c ∧ x = vD f c j)) : n = (readsF f c row).1 := by
  refine EN.len JL (fun x y hx hy => ?_) h (readsF_EN (row := row) hI hc) (fun y => ⟨?_, ?_⟩)
  · obtain ⟨j, h1, rfl⟩ := hx
    obtain ⟨j', h2, rfl⟩ := hy
    exact JL_inj (vD_lt hI hc h1) (vD_lt hI hc h2)
  · rintro ⟨j, h1, rfl⟩
    exact ⟨_, ⟨j, h1, rfl⟩, rfl⟩
  · rintro ⟨x, ⟨j, h1, rfl⟩, rfl⟩
    exact ⟨j, h1, rfl⟩
theorem ltEx {X : Type} {V : Nat → X} {i : Nat} (x : X) : ((∃ j, j < i ∧ x = V j) ∨ x = V i) ↔ ∃ j, j < i + 1 ∧ x = V j := by
  constructor
  · rintro (⟨j, h1, h2⟩ | h)
    · exact ⟨j, by omega, h2⟩
    · exact ⟨i, by omega, h⟩
  · rintro ⟨j, h1, h2⟩
    rcases Nat.lt_or_ge j i with h | h
    · exact Or.inl ⟨j, h, h2⟩
    · obtain rfl : j = i := by omega
      exact Or.inr h2
theorem c_drawers {x : Int32} {row : Nat → Int64} (hK : KI F A f np nm v) (hR : RS F A f 6 np nm nc nt ns nh) (hI : IV f np nm nc nt ns nh) (hn : w.1 = N0) : Ev g (d + 7) 128 [.ref 0, .int x] (cW w F A L) (caQ w F A (f) v (if okN x nc = true then 0 else 1) (some (.int (if okN x nc = true then nI (readsF f (cN x) row).1 else 0)))) (caX (cW w F A L) (if okN x nc = true then 0 else 1) 2 0) := by
  have h60 := hI.p60
  have h20 := hI.m20
  have h16 := hI.c16
  have h10 := hI.t10
  have h200 := hI.s200
  have hh200 := hI.h200
  refine ev_X10_drawers ?_ (Nat.le_of_ble_eq_true rfl)
  refine x_lo (lo' := [some (.ref 0), some (.int x), none, none, none]) rfl ?_
  refine x_al rfl rfl ?_
  refine x_il rfl rfl ?_
  refine x_call2 (c_needCard hR.1.2.2.2.2.2.2.1 (by omega) hn) rfl (Nat.le_of_ble_eq_true rfl) (Or.inl (by first | exact hn | assumption)) (rcv_at (cw_fs (by with_reducible exact sp_0) hn) (by decide) (by decide)) (Nat.le_of_ble_eq_true rfl) (Nat.le_of_ble_eq_true rfl) (fun E w9 hq => ⟨rfl, by obtain ⟨h9, rfl, rfl⟩ := hq; exact ⟨rfl, Or.inl ⟨if_neg (fun h8 => fne h9 h8), rfl⟩⟩⟩) ?_
  rintro v9 w9 ⟨h1, rfl, rfl⟩
  refine x_al rfl rfl ?_
  refine x_getC rfl hn (by with_reducible exact sp_0) (by exact rfl) ?_
  refine x_il rfl rfl ?_
  refine x_al rfl rfl ?_
  refine x_getC rfl hn (by with_reducible exact sp_0) (by exact rfl) ?_
  obtain ⟨c, hc, rfl, ec⟩ := ok_of h1 (by omega)
  rw [if_pos h1, if_pos h1, ec]
  have m16 := (sq_ok hI hc).1
  refine x_call3 (c_fillReadings (q := 1420) (Or.inl rfl) hR hI hc hn) rfl (Nat.le_of_ble_eq_true rfl) (Or.inl (by first | exact hn | assumption)) (rcv_at (cw_fs (by with_reducible exact (by first | exact sp_6 | exact st_0 (by assumption))) hn) (by decide) (by decide)) (Nat.le_of_ble_eq_true rfl) (Nat.le_of_ble_eq_true rfl) (fun E w9 hq => hq.elim) ?_
  rintro v9 w9 ⟨rfl, r, rfl, hr⟩
  refine x_is (lo' := [_, _, _, _, _]) rfl (Nat.le_of_ble_eq_true rfl) rfl ?_
  refine x_c rfl ?_
  refine x_is (lo' := [_, _, _, _, _]) rfl (Nat.le_of_ble_eq_true rfl) rfl ?_
  refine x_c rfl ?_
  refine x_is (lo' := [_, _, _, _, _]) rfl (Nat.le_of_ble_eq_true rfl) rfl ?_
  have loop : ∀ i, i ≤ nD f c → ∀ n e, EN n e (fun x => ∃ j, j < i ∧ x = vD f c j) → ∀ uc us : Nat, uc = 0 + (mbOf 171).1 + (mbOf 82).1 → us = 0 + (mbOf 171).2 + (mbOf 82).2 → EX g mbOf (Ev g (d + 6)) (infoOf 128) k_X10_drawers (caQ w F A f v 0 (some (.int (nI (readsF f c row).1)))) (caX (cW w F A L) 0 2 0) w.1 (cW w F (udA A 1420 r) L) uc us 14 [some (.ref 0), some (.int (nI c)), some (.int (nI (nD f c))), some (.int (nI n)), some (.int (nI i))] [] := by
    refine downN (nD f c) fun i hi ih => ?_
    rintro n e he _ _ rfl rfl
    refine x_il rfl rfl ?_
    refine x_il rfl rfl ?_
    refine x_icgeN rfl (by omega) (fun c0 => ?_) (fun c0 => ?_)
    · refine x_il rfl rfl ?_
      refine x_reti rfl (Nat.le_of_ble_eq_true rfl) (Nat.le_of_ble_eq_true rfl) rfl ?_
      obtain rfl : i = nD f c := by omega
      refine ca_sx hR hI (fun q hq => ⟨rfl, udA_ne (by omega)⟩) (hK.keepC rfl (udA_ne (by omega))) ?_ rfl
      rw [drw_eq (row := row) hI hc he]
    refine x_al rfl rfl ?_
    refine x_getC rfl hn (by with_reducible exact sp_0) (by exact rfl) ?_
    refine x_il rfl rfl ?_
    refine x_al rfl rfl ?_
    refine x_getC rfl hn (by with_reducible exact sp_0) (by exact rfl) ?_
    refine x_il rfl rfl ?_
    refine x_iaC rfl hn (by with_reducible exact sp_1420) (by omega) ?_
    have ih := ih c0
    rw [show udA A 1420 r 1420 i = nI (vD f c i) by rw [udA_t]; exact hr i c0]
    have hx : (∃ j, j < i ∧ udA A 1420 r 1420 j = nI (vD f c i)) ↔ ∃ j, j < i ∧ vD f c i = vD f c j := by
      rw [udA_t]
      constructor
      · rintro ⟨j, h1, h2⟩
        have h3 := vD_lt hI hc c0
        have h4 := vD_lt hI hc (show j < nD f c by omega)
        exact ⟨j, h1, (nI_cn (by omega) (by omega) ((hr j (by omega)).symm.trans h2)).symm⟩
      · rintro ⟨j, h1, h2⟩
        exact ⟨j, h1, (hr j (by omega)).trans (congrArg nI h2.symm)⟩
    refine x_call3 (c_hasIn (q := 1420) (m := 16) sp_1420 (by decide) (by omega) hn) rfl (Nat.le_of_ble_eq_true rfl) (Or.inl (by first | exact hn | assumption)) trivial (Nat.le_of_ble_eq_true rfl) (Nat.le_of_ble_eq_true rfl) (fun E w9 hq => hq.elim) ?_
    rintro v9 w9 ⟨hh, rfl⟩
    rcases hh with ⟨rfl, h1⟩ | ⟨rfl, h1⟩
    · refine x_ifne rfl (fun e9 => ?_) (fun e9 => absurd e9 (by decide))
      refine x_inc1 (lo' := [_, _, _, _, _]) rfl rfl rfl ?_
      refine x_go rfl ?_
      exact ih n e ((he.old (hx.mp h1)).iff ltEx) _ _ rfl rfl
    · refine x_ifne rfl (fun e9 => absurd rfl e9) (fun e9 => ?_)
      refine x_inc1 (lo' := [_, _, _, _, _]) rfl rfl rfl ?_
      refine x_inc1 (lo' := [_, _, _, _, _]) rfl rfl rfl ?_
      refine x_go rfl ?_
      exact ih (n + 1) (fun j => if j = n then vD f c i else e j) ((he.new (e' := fun j => if j = n then vD f c i else e j) (fun h => h1 (hx.mpr h)) (if_pos rfl) (fun j hj => if_neg (by omega))).iff ltEx) _ _ rfl rfl
  exact loop 0 (Nat.zero_le _) 0 (fun _ => 0) (EN.z.iff fun x => ⟨False.elim, fun ⟨j, h, _⟩ => absurd h (Nat.not_lt_zero _)⟩) _ _ rfl rfl
/-- the cards share a reading -/
def shP (f : Nat → Int32) (c o : Nat) : Prop := ∃ i j, i < nD f o ∧ j < nD f c ∧ vD f c j = vD f o i
theorem shB_iff {r s : rdS} : ∀ k, shB r s k = true ↔ ∃ t, t < k ∧ r.2 (t / s.1) = s.2 (t % s.1) := by
  intro k
  induction k with
  | zero => exact ⟨fun h => (by cases h), fun ⟨t, h, _⟩ => absurd h (Nat.not_lt_zero _)⟩
  | succ k ih =>
    show (shB r s k || (r.2 (k / s.1) == s.2 (k % s.1))) = true ↔ _
    rw [Bool.or_eq_true, ih, beq_iff_eq]
    constructor
    · rintro (⟨t, h1, h2⟩ | h)
      · exact ⟨t, by omega, h2⟩
      · exact ⟨k, by omega, h⟩
    · rintro ⟨t, h1, h2⟩
      rcases Nat.lt_or_ge t k with b | b
      · exact Or.inl ⟨t, b, h2⟩
      · obtain rfl : t = k := by omega
        exact Or.inr h2
theorem shB_sh {c o : Nat} (hI : IV f np nm nc nt ns nh) (hc : c < nc) (ho : o < nc) : shB (rdL f c) (rdL f o) ((rdL f c).1 * (rdL f o).1) = true ↔ shP f c o := by
  have hC := readsF_EN (row := fun _ => 0) hI hc
  have hO := readsF_EN (row := fun _ => 0) hI ho
  rw [shB_iff]
  constructor
  · rintro ⟨t, h1, h2⟩
    have hp : 0 < (rdL f o).1 := by
      rcases Nat.eq_zero_or_pos (rdL f o).1 with e | e
      · rw [e, Nat.mul_zero] at h1; omega
      · exact e
    have q1 : t / (rdL f o).1 < (rdL f c).1 := (Nat.div_lt_iff_lt_mul hp).mpr h1
    have q2 : t % (rdL f o).1 < (rdL f o).1 := Nat.mod_lt _ hp
    obtain ⟨j, a1, a2⟩ := (hC.2 _).mp ⟨_, q1, rfl⟩
    obtain ⟨i, b1, b2⟩ := (hO.2 _).mp ⟨_, q2, rfl⟩
    exact ⟨i, j, b1, a1, JL_inj (vD_lt hI hc a1) (vD_lt hI ho b1) (a2.symm.trans (h2.trans b2))⟩
  · rintro ⟨i, j, h1, h2, h3⟩
    obtain ⟨x, x1, x2⟩ := (hC.2 (JL (vD f c j))).mpr ⟨j, h2, rfl⟩
    obtain ⟨y, y1, y2⟩ := (hO.2 (JL (vD f o i))).mpr ⟨i, h1, rfl⟩
    have hp : 0 < (rdL f o).1 := Nat.lt_of_le_of_lt (Nat.zero_le _) y1
    refine ⟨x * (rdL f o).1 + y, ?_, ?_⟩
    · have : (x + 1) * (rdL f o).1 ≤ (rdL f c).1 * (rdL f o).1 := Nat.mul_le_mul_right _ x1
      rw [Nat.add_mul, Nat.one_mul] at this
      have y1 : y < (rdL f o).1 := y1
      omega
    · have y1 : y < (rdL f o).1 := y1
      rw [Nat.mul_comm x, Nat.mul_add_div hp, Nat.div_eq_of_lt y1, Nat.add_zero, Nat.mul_add_mod, Nat.mod_eq_of_lt y1]
      exact x2.trans ((congrArg JL h3).trans y2.symm)
theorem c_sharesReading {c o : Nat} (hA : ∀ i, i < nD f c → A 1420 i = nI (vD f c i)) (hR : RS F A f 6 np nm nc nt ns nh) (hI : IV f np nm nc nt ns nh) (hc : c < nc) (ho : o < nc) (hn : w.1 = N0) : Ev g (d + 7) 130 [.ref 0, .int (nI o), .int (nI (nD f c))] (cW w F A L) (fun v w' => (v = some (.int 1) ∧ shP f c o ∨ v = some (.int 0) ∧ ¬ shP f c o) ∧ ∃ r, w' = cW w F (udA A 1421 r) L) noX := by
  have m16 := (sq_ok hI hc).1
  have n16 := (sq_ok hI ho).1
  refine ev_X10_sharesReading ?_ (Nat.le_of_ble_eq_true rfl)
  refine x_lo (lo' := [some (.ref 0), some (.int (nI o)), some (.int (nI (nD f c))), none, none]) rfl ?_
  refine x_al rfl rfl ?_
  refine x_getC rfl hn (by with_reducible exact sp_0) (by exact rfl) ?_
  refine x_il rfl rfl ?_
  refine x_al rfl rfl ?_
  refine x_getC rfl hn (by with_reducible exact sp_0) (by exact rfl) ?_
  refine x_call3 (c_fillReadings (q := 1421) (Or.inr rfl) hR hI ho hn) rfl (Nat.le_of_ble_eq_true rfl) (Or.inl (by first | exact hn | assumption)) (rcv_at (cw_fs (by with_reducible exact (by first | exact sp_6 | exact st_0 (by assumption))) hn) (by decide) (by decide)) (Nat.le_of_ble_eq_true rfl) (Nat.le_of_ble_eq_true rfl) (fun E w9 hq => hq.elim) ?_
  rintro v9 w9 ⟨rfl, r, rfl, hr⟩
  refine x_is (lo' := [_, _, _, _, _]) rfl (Nat.le_of_ble_eq_true rfl) rfl ?_
  refine x_c rfl ?_
  refine x_is (lo' := [_, _, _, _, _]) rfl (Nat.le_of_ble_eq_true rfl) rfl ?_
  have loop : ∀ i, i ≤ nD f o → (∀ i', i' < i → ¬ ∃ j, j < nD f c ∧ vD f c j = vD f o i') → ∀ uc us : Nat, uc = 0 + (mbOf 82).1 → us = 0 + (mbOf 82).2 → EX g mbOf (Ev g (d + 6)) (infoOf 130) k_X10_sharesReading (fun v w' => (v = some (.int 1) ∧ shP f c o ∨ v = some (.int 0) ∧ ¬ shP f c o) ∧ ∃ r, w' = cW w F (udA A 1421 r) L) (noX) w.1 (cW w F (udA A 1421 r) L) uc us 9 [some (.ref 0), some (.int (nI o)), some (.int (nI (nD f c))), some (.int (nI (nD f o))), some (.int (nI i))] [] := by
    refine downN (nD f o) fun i hi ih => ?_
    rintro hno _ _ rfl rfl
    refine x_il rfl rfl ?_
    refine x_il rfl rfl ?_
    refine x_icgeN rfl (by omega) (fun c0 => ?_) (fun c0 => ?_)
    · refine x_c rfl ?_
      refine x_retz rfl (Nat.le_of_ble_eq_true rfl) (Nat.le_of_ble_eq_true rfl) rfl (by first | rfl | assumption | exact bI_01 _) ?_
      obtain rfl : i = nD f o := by omega
      exact ⟨Or.inr ⟨rfl, fun ⟨i', j, h1, h2, h3⟩ => hno i' h1 ⟨j, h2, h3⟩⟩, r, rfl⟩
    refine x_al rfl rfl ?_
    refine x_getC rfl hn (by with_reducible exact sp_0) (by exact rfl) ?_
    refine x_il rfl rfl ?_
    refine x_al rfl rfl ?_
    refine x_getC rfl hn (by with_reducible exact sp_0) (by exact rfl) ?_
    refine x_il rfl rfl ?_
    refine x_iaC rfl hn (by with_reducible exact sp_1421) (by omega) ?_
    have ih := ih c0
    rw [show udA A 1421 r 1421 i = nI (vD f o i) by rw [udA_t]; exact hr i c0]
    have hx : (∃ j, j < nD f c ∧ udA A 1421 r 1420 j = nI (vD f o i)) ↔ ∃ j, j < nD f c ∧ vD f c j = vD f o i := by
      rw [udA_ne (by decide)]
      constructor
      · rintro ⟨j, h1, h2⟩
        have h3 := vD_lt hI ho c0
        have h4 := vD_lt hI hc h1
        exact ⟨j, h1, nI_cn (by omega) (by omega) ((hA j h1).symm.trans h2)⟩
      · rintro ⟨j, h1, h2⟩
        exact ⟨j, h1, (hA j h1).trans (congrArg nI h2)⟩
    refine x_call3 (c_hasIn (q := 1420) (m := 16) sp_1420 (by decide) m16 hn) rfl (Nat.le_of_ble_eq_true rfl) (Or.inl (by first | exact hn | assumption)) trivial (Nat.le_of_ble_eq_true rfl) (Nat.le_of_ble_eq_true rfl) (fun E w9 hq => hq.elim) ?_
    rintro v9 w9 ⟨hh, rfl⟩
    rcases hh with ⟨rfl, h1⟩ | ⟨rfl, h1⟩
    · refine x_ifeq rfl (fun e9 => absurd e9 (by decide)) (fun e9 => ?_)
      refine x_c rfl ?_
      refine x_retz rfl (Nat.le_of_ble_eq_true rfl) (Nat.le_of_ble_eq_true rfl) rfl (by first | rfl | assumption | exact bI_01 _) ?_
      obtain ⟨j, h2, h3⟩ := hx.mp h1
      exact ⟨Or.inl ⟨rfl, i, j, c0, h2, h3⟩, r, rfl⟩
    · refine x_ifeq rfl (fun e9 => ?_) (fun e9 => absurd rfl e9)
      refine x_inc1 (lo' := [_, _, _, _, _]) rfl rfl rfl ?_
      refine x_go rfl ?_
      exact ih (fun i' h2 => by
        by_cases e : i' = i
        · subst e; exact fun h => h1 (hx.mpr h)
        · exact hno i' (by omega)) _ _ rfl rfl
  exact loop 0 (Nat.zero_le _) (fun i' h => absurd h (Nat.not_lt_zero _)) _ _ rfl rfl
theorem c_like {x n : Int32} (hK : KI F A f np nm v) (hR : RS F A f 6 np nm nc nt ns nh) (hI : IV f np nm nc nt ns nh) (hn : w.1 = N0) : Ev g (d + 8) 129 [.ref 0, .int x, .int n] (cW w F A L) (caQ w F A (f) v (if okN x nc = true then 0 else 1) (some (.int (if okN x nc = true then likeF f nc (cN x) n 0 0 else 0)))) (caX (cW w F A L) (if okN x nc = true then 0 else 1) 2 0) := by
  have h60 := hI.p60
  have h20 := hI.m20
  have h16 := hI.c16
  have h10 := hI.t10
  have h200 := hI.s200
  have hh200 := hI.h200
  refine ev_X10_like ?_ (Nat.le_of_ble_eq_true rfl)
  refine x_lo (lo' := [some (.ref 0), some (.int x), some (.int n), none, none, none]) rfl ?_
  refine x_al rfl rfl ?_
  refine x_il rfl rfl ?_
  refine x_call2 (c_needCard hR.1.2.2.2.2.2.2.1 (by omega) hn) rfl (Nat.le_of_ble_eq_true rfl) (Or.inl (by first | exact hn | assumption)) (rcv_at (cw_fs (by with_reducible exact sp_0) hn) (by decide) (by decide)) (Nat.le_of_ble_eq_true rfl) (Nat.le_of_ble_eq_true rfl) (fun E w9 hq => ⟨rfl, by obtain ⟨h9, rfl, rfl⟩ := hq; exact ⟨rfl, Or.inl ⟨if_neg (fun h8 => fne h9 h8), rfl⟩⟩⟩) ?_
  rintro v9 w9 ⟨h1, rfl, rfl⟩
  refine x_al rfl rfl ?_
  refine x_getC rfl hn (by with_reducible exact sp_0) (by exact rfl) ?_
  refine x_il rfl rfl ?_
  refine x_al rfl rfl ?_
  refine x_getC rfl hn (by with_reducible exact sp_0) (by exact rfl) ?_
  obtain ⟨c, hc, rfl, ec⟩ := ok_of h1 (by omega)
  rw [if_pos h1, if_pos h1, ec]
  have m16 := (sq_ok hI hc).1
  refine x_call3 (c_fillReadings (q := 1420) (Or.inl rfl) hR hI hc hn) rfl (Nat.le_of_ble_eq_true rfl) (Or.inl (by first | exact hn | assumption)) (rcv_at (cw_fs (by with_reducible exact (by first | exact sp_6 | exact st_0 (by assumption))) hn) (by decide) (by decide)) (Nat.le_of_ble_eq_true rfl) (Nat.le_of_ble_eq_true rfl) (fun E w9 hq => hq.elim) ?_
  rintro v9 w9 ⟨rfl, r, rfl, hr⟩
  refine x_is (lo' := [_, _, _, _, _, _]) rfl (Nat.le_of_ble_eq_true rfl) rfl ?_
  refine x_c rfl ?_
  refine x_is (lo' := [_, _, _, _, _, _]) rfl (Nat.le_of_ble_eq_true rfl) rfl ?_
  refine x_c rfl ?_
  refine x_is (lo' := [_, _, _, _, _, _]) rfl (Nat.le_of_ble_eq_true rfl) rfl ?_
  have loop : ∀ o, o ≤ nc → ∀ a s, ∀ uc us : Nat, uc = 0 + (mbOf 171).1 + (mbOf 82).1 → us = 0 + (mbOf 171).2 + (mbOf 82).2 → EX g mbOf (Ev g (d + 7)) (infoOf 129) k_X10_like (caQ w F A f v 0 (some (.int (likeF f nc c n o a)))) (caX (cW w F A L) 0 2 0) w.1 (cW w F (udA (udA A 1420 r) 1421 s) L) uc us 14 [some (.ref 0), some (.int (nI c)), some (.int n), some (.int (nI (nD f c))), some (.int (nI a)), some (.int (nI o))] [] := by
    refine downN nc fun o ho ih => ?_
    rintro a s _ _ rfl rfl
    have hs : ∀ q, (q < 1396 ∨ q = 1409) → F q = F q ∧ udA (udA A 1420 r) 1421 s q = A q := fun q hq => ⟨rfl, by rw [udA_ne (by omega), udA_ne (by omega)]⟩
    have hK1 : KI F (udA (udA A 1420 r) 1421 s) f np nm v := hK.keepC rfl (by rw [udA_ne (by omega), udA_ne (by omega)])
    have hR1 := hR.keep hI (fun q h1 h2 => hs q (by omega))
    refine x_il rfl rfl ?_
    refine x_al rfl rfl ?_
    refine x_getC rfl hn (by with_reducible exact sp_0) (by exact rfl) ?_
    refine x_getC rfl hn (by with_reducible exact (by first | exact sp_6 | exact st_0 (by assumption))) (by exact rfl) ?_
    rw [show F 6 6 = nI nc from hR.1.2.2.2.2.2.2.1]
    refine x_icgeN rfl (by omega) (fun c0 => ?_) (fun c0 => ?_)
    · refine x_c rfl ?_
      refine x_reti rfl (Nat.le_of_ble_eq_true rfl) (Nat.le_of_ble_eq_true rfl) rfl ?_
      have e : likeF f nc c n o a = -1 := it_end (by omega)
      rw [e]
      exact ca_sx hR hI hs hK1 rfl rfl
    refine x_il rfl rfl ?_
    refine x_il rfl rfl ?_
    have ih := ih c0
    have skip : (o = c ∨ ¬ f (6607 + 26 * o + 2) < 0 ∨ shB (rdL f c) (rdL f o) ((rdL f c).1 * (rdL f o).1) = false) → likeF f nc c n o a = likeF f nc c n (o + 1) a := fun h => it_go c0 (if_pos h)
    have hA : ∀ i, i < nD f c → udA (udA A 1420 r) 1421 s 1420 i = nI (vD f c i) := fun i hi => by rw [udA_ne (by decide), udA_t]; exact hr i hi
    refine x_iceqN rfl (by omega) (fun c1 => ?_) (fun c1 => ?_)
    · refine x_inc1 (lo' := [_, _, _, _, _, _]) rfl rfl rfl ?_
      refine x_go rfl ?_
      rw [skip (Or.inl c1)]
      exact ih a s _ _ rfl rfl
    refine x_al rfl rfl ?_
    refine x_getC rfl hn (by with_reducible exact sp_0) (by exact rfl) ?_
    refine x_il rfl rfl ?_
    refine x_call2 (c_isInFile hR1 hI c0 hn) rfl (Nat.le_of_ble_eq_true rfl) (Or.inl (by first | exact hn | assumption)) (rcv_at (cw_fs (by with_reducible exact (by first | exact sp_6 | exact st_0 (by assumption))) hn) (by decide) (by decide)) (Nat.le_of_ble_eq_true rfl) (Nat.le_of_ble_eq_true rfl) (fun E w9 hq => hq.elim) ?_
    rintro v9 w9 ⟨rfl, rfl⟩
    refine x_ifeqB rfl (fun c2 => ?_) (fun c2 => ?_)
    · refine x_inc1 (lo' := [_, _, _, _, _, _]) rfl rfl rfl ?_
      refine x_go rfl ?_
      rw [skip (Or.inr (Or.inl c2))]
      exact ih a s _ _ rfl rfl
    refine x_al rfl rfl ?_
    refine x_il rfl rfl ?_
    refine x_il rfl rfl ?_
    refine x_call3 (c_sharesReading (c := c) hA hR1 hI hc c0 hn) rfl (Nat.le_of_ble_eq_true rfl) (Or.inl (by first | exact hn | assumption)) (rcv_at (cw_fs (by with_reducible exact sp_0) hn) (by decide) (by decide)) (Nat.le_of_ble_eq_true rfl) (Nat.le_of_ble_eq_true rfl) (fun E w9 hq => hq.elim) ?_
    rintro v9 w9 ⟨hh, s', rfl⟩
    simp only [udA_udA]
    rcases hh with ⟨rfl, h1⟩ | ⟨rfl, h1⟩
    · refine x_ifne rfl (fun e9 => ?_) (fun e9 => absurd e9 (by decide))
      refine x_il rfl rfl ?_
      refine x_il rfl rfl ?_
      have hno : ¬ (o = c ∨ ¬ f (6607 + 26 * o + 2) < 0 ∨ shB (rdL f c) (rdL f o) ((rdL f c).1 * (rdL f o).1) = false) := by
        rintro (h | h | h)
        · exact c1 h
        · exact h c2
        · rw [(shB_sh hI hc c0).mpr h1] at h; cases h
      refine x_icne rfl (fun c3 => ?_) (fun c3 => ?_)
      rotate_left
      · refine x_il rfl rfl ?_
        refine x_reti rfl (Nat.le_of_ble_eq_true rfl) (Nat.le_of_ble_eq_true rfl) rfl ?_
        have e : likeF f nc c n o a = nI o := it_ret c0 ((if_neg hno).trans (if_pos c3))
        rw [e]
        exact ca_sx hR hI (fun q hq => ⟨rfl, by rw [udA_ne (by omega), udA_ne (by omega)]⟩) (hK.keepC rfl (by rw [udA_ne (by omega), udA_ne (by omega)])) rfl rfl
      refine x_inc1 (lo' := [_, _, _, _, _, _]) rfl rfl rfl ?_
      refine x_inc1 (lo' := [_, _, _, _, _, _]) rfl rfl rfl ?_
      refine x_go rfl ?_
      have e : likeF f nc c n o a = likeF f nc c n (o + 1) (a + 1) := it_go c0 ((if_neg hno).trans (if_neg c3))
      rw [e]
      exact ih (a + 1) s' _ _ rfl rfl
    · refine x_ifne rfl (fun e9 => absurd rfl e9) (fun e9 => ?_)
      refine x_go rfl ?_
      refine x_inc1 (lo' := [_, _, _, _, _, _]) rfl rfl rfl ?_
      refine x_go rfl ?_
      rw [skip (Or.inr (Or.inr (by
        cases hb : shB (rdL f c) (rdL f o) ((rdL f c).1 * (rdL f o).1) with
        | false => rfl
        | true => exact absurd ((shB_sh hI hc c0).mp hb) h1)))]
      exact ih a s' _ _ rfl rfl
  have := loop 0 (Nat.zero_le _) 0 (udA A 1420 r 1421) _ _ rfl rfl
  rw [udA_self] at this
  exact this
end CALLS
