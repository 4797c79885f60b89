/-! drawers and like of the class; cw_ -/
section K
variable {F A : Nat → Nat → Int32} {f : Nat → Int32} {np nm nc nt ns nh : Nat}
theorem sq_ok {c : Nat} (hI : IV f np nm nc nt ns nh) (hc : c < nc) : nD f c ≤ 16 ∧ 1 ≤ nD f c ∧ (∀ i, i < nD f c → SB f c (sqD (dbN f c) i) ∧ sqD (dbN f c) i < 1024 ∧ sqD (dbN f c) i = rqD (dbN f c) (nD f c - 1 - i) ∧ (sqD (dbN f c) (i + 1) = 0 ↔ i + 1 = nD f c)) ∧ cn (fun j => (dbN f c).testBit j) 10 ≤ 4 := by
  have h4 : cn (dbt f c) 10 ≤ 4 := by
    have h := (hI.ca hc).2.2.2.2
    refine Nat.le_trans (cn_mono fun j hj hd => ?_) h
    unfold dbt at hd
    exact decide_eq_true (of_decide_eq_true hd).1
  have hb := dbN_4 h4
  obtain ⟨m1, m2, m3⟩ := subs16 ⟨dbN f c, dbN_lt⟩ hb
  refine ⟨m2, Nat.two_pow_pos _, fun i hi => ?_, hb⟩
  have m2 : sbM (dbN f c) ≤ 16 := m2
  have hi2 : i < sbM (dbN f c) := hi
  obtain ⟨a1, a2, a3, a4⟩ := m3 ⟨i, by omega⟩ hi
  have a4 : sqD (dbN f c) i &&& dbN f c = sqD (dbN f c) i := a4
  have : sqD (dbN f c) i ≤ dbN f c := by rw [← a4]; exact Nat.and_le_right
  have h8 := dbN_lt (f := f) (c := c)
  exact ⟨sqD_SB a4, by omega, a1, a3⟩
theorem vD_lt {c i : Nat} (hI : IV f np nm nc nt ns nh) (hc : c < nc) (hi : i < nD f c) : vD f c i < 2 ^ 30 := DN_lt (o := 0) hI hc ((sq_ok hI hc).2.2.1 i hi).1 10 (by omega)
/-- the readings of the formula are those of the class -/
theorem readsF_EN {c : Nat} {row : Nat → Int64} (hI : IV f np nm nc nt ns nh) (hc : c < nc) : EN (readsF f c row).1 (readsF f c row).2 (fun x => ∃ j, j < nD f c ∧ x = JL (vD f c j)) := by
  obtain ⟨m1, m2, m3, m4⟩ := sq_ok hI hc
  have m5 := (subs16 ⟨dbN f c, dbN_lt⟩ m4).1
  have m5 : nD f c ≤ dbN f c + 1 := m5
  have h := rdF_EN (V := rdV f c) dbN_lt m4 (dbN f c + 1) 0 (0, row) (fun _ => False) m2 m5 EN.z
  refine EN.iff (show EN (readsF f c row).1 (readsF f c row).2 _ from h) fun x => ⟨?_, ?_⟩
  · rintro (h1 | ⟨j, h1, h2, h3⟩)
    · exact h1.elim
    · have h2 : j < nD f c := h2
      obtain ⟨s1, s2, s3, s4⟩ := m3 (nD f c - 1 - j) (by omega)
      refine ⟨nD f c - 1 - j, by omega, h3.trans ?_⟩
      rw [show nD f c - 1 - (nD f c - 1 - j) = j by omega] at s3
      rw [← s3, rdV_J hI hc s1]
      rfl
  · rintro ⟨j, h1, h2⟩
    obtain ⟨s1, s2, s3, s4⟩ := m3 j h1
    refine Or.inr ⟨nD f c - 1 - j, Nat.zero_le _, show nD f c - 1 - j < nD f c by omega, ?_⟩
    rw [h2, ← s3, rdV_J hI hc s1]
    rfl
theorem nI_wrap {b D : Nat} (hD : D < 1024) : nI b - nI D = nI ((b + 4294967296 - D) % 4294967296) := by
  have e : nI ((b + 4294967296 - D) % 4294967296) + nI D = nI b := by
    rw [nI_add]
    apply Int32.toBitVec_inj.mp
    show BitVec.ofNat 32 _ = BitVec.ofNat 32 _
    apply BitVec.eq_of_toNat_eq
    rw [BitVec.toNat_ofNat, BitVec.toNat_ofNat]
    omega
  rw [← e, Int32.add_sub_cancel]
end K
section CALLS
variable {g : aG} {d : Nat} {w : aW} {F A : Nat → Nat → Int32} {L : Nat → Int64} {f : Nat → Int32} {np nm nc nt ns nh v : Nat}
theorem c_choices {q : Nat} {P : Nat → Bool} (hP : ∀ j, j < 10 → (P j = true ↔ ¬ A (q + 1) j = -1 ∧ ¬ A (q + 2) j = -1)) (hq : CaAt q) (hn : w.1 = N0) : Ev g (d + 1) 4 [.ref q] (cW w F A L) (RetQ (nI (bitsN P 10)) (cW w F A L)) noX := by
  have loop : ∀ j, j ≤ 10 → EX g mbOf (Ev g (d)) (infoOf 4) k_X0_choices (RetQ (nI (bitsN P 10)) (cW w F A L)) noX w.1 (cW w F A L) 0 0 4 [some (.ref q), some (.int (nI (bitsN P j))), some (.int (nI j))] [] := by
    refine downN 10 fun j hj ih => ?_
    refine x_il rfl rfl ?_
    refine x_c rfl ?_
    refine x_icgeN (y := 10) rfl (by omega) (fun c => ?_) (fun c => ?_)
    · refine x_il rfl rfl ?_
      refine x_reti rfl (Nat.le_of_ble_eq_true rfl) (Nat.le_of_ble_eq_true rfl) rfl ?_
      obtain rfl : j = 10 := by omega
      exact ⟨rfl, rfl⟩
    refine x_al rfl rfl ?_
    refine x_getC rfl hn (by with_reducible exact ca_0 (by first | assumption | exact caA (by omega) | exact caB (by assumption) (by omega))) (by exact rfl) ?_
    refine x_il rfl rfl ?_
    refine x_iaC rfl hn (by with_reducible exact ca_1 (by first | assumption | exact caA (by omega) | exact caB (by assumption) (by omega))) (by omega) ?_
    refine x_c rfl ?_
    have ih := ih c
    have no : ¬ P j = true → bitsN P (j + 1) = bitsN P j := fun h => by
      show bitsN P j ||| (if P j then 2 ^ j else 0) = _
      rw [if_neg h, Nat.or_zero]
    refine x_iceq rfl (fun c1 => ?_) (fun c1 => ?_)
    · refine x_inc1 (lo' := [_, _, _]) rfl rfl rfl ?_
      refine x_go rfl ?_
      rw [no (fun h => ((hP j c).mp h).1 c1)] at ih
      exact ih
    refine x_al rfl rfl ?_
    refine x_getC rfl hn (by with_reducible exact ca_0 (by first | assumption | exact caA (by omega) | exact caB (by assumption) (by omega))) (by exact rfl) ?_
    refine x_il rfl rfl ?_
    refine x_iaC rfl hn (by with_reducible exact ca_2 (by first | assumption | exact caA (by omega) | exact caB (by assumption) (by omega))) (by omega) ?_
    refine x_c rfl ?_
    refine x_iceq rfl (fun c2 => ?_) (fun c2 => ?_)
    · refine x_inc1 (lo' := [_, _, _]) rfl rfl rfl ?_
      refine x_go rfl ?_
      rw [no (fun h => ((hP j c).mp h).2 c2)] at ih
      exact ih
    refine x_il rfl rfl ?_
    refine x_c rfl ?_
    refine x_il rfl rfl ?_
    refine x_shl rfl ?_
    refine x_or rfl ?_
    refine x_is (lo' := [_, _, _]) rfl (Nat.le_of_ble_eq_true rfl) rfl ?_
    refine x_inc1 (lo' := [_, _, _]) rfl rfl rfl ?_
    refine x_go rfl ?_
    have e : bitsN P (j + 1) = bitsN P j ||| 2 ^ j := by
      show bitsN P j ||| (if P j then 2 ^ j else 0) = _
      rw [if_pos ((hP j c).mpr ⟨c1, c2⟩)]
    rw [shl_nI (by omega), nI_or, ← e]
    exact ih
  refine ev_X0_choices ?_ (Nat.le_of_ble_eq_true rfl)
  refine x_lo (lo' := [some (.ref q), none, none]) rfl ?_
  refine x_c rfl ?_
  refine x_is (lo' := [_, _, _]) rfl (Nat.le_of_ble_eq_true rfl) rfl ?_
  refine x_c rfl ?_
  refine x_is (lo' := [_, _, _]) rfl (Nat.le_of_ble_eq_true rfl) rfl ?_
  exact loop 0 (by decide)
/-- what fillReadings leaves -/
def filQ (w : aW) (F A : Nat → Nat → Int32) (L : Nat → Int64) (f : Nat → Int32) (c q : Nat) : Option Value → aW → Prop := fun v w' => v = some (.int (nI (nD f c))) ∧ ∃ r, w' = cW w F (udA A q r) L ∧ ∀ i, i < nD f c → r i = nI (vD f c i)
theorem c_fillReadings {c q : Nat} (hq : q = 1420 ∨ q = 1421) (hR : RS F A f 6 np nm nc nt ns nh) (hI : IV f np nm nc nt ns nh) (hc : c < nc) (hn : w.1 = N0) : Ev g (d + 6) 82 [.ref 6, .int (nI c), .ref q] (cW w F A L) (filQ w F A L f c q) noX := by
  have h60 := hI.p60
  have h20 := hI.m20
  have h16 := hI.c16
  have h10 := hI.t10
  have h200 := hI.s200
  have hh200 := hI.h200
  obtain ⟨m1, m2, m3, m4⟩ := sq_ok hI hc
  have hRC := hR.ca hc
  have hca := hI.ca hc
  have sq : shp q = .ia 16 := by rcases hq with rfl | rfl <;> rfl
  have hP : ∀ j, j < 10 → (dbt f c j = true ↔ ¬ A (561 + 5 * c + 1) j = -1 ∧ ¬ A (561 + 5 * c + 2) j = -1) := by
    intro j hj
    have n1 := FN.neg (by omega) (hca.2.2.2.1 j hj).1
    have n2 := FN.neg (n := 8) (by omega) (hca.2.2.2.1 j hj).2
    rw [(hRC.2.1 j hj).1, (hRC.2.1 j hj).2.1]
    unfold dbt
    rw [decide_eq_true_iff]
    exact ⟨fun h => ⟨fun h2 => absurd (n1.mp h2) (Int32.not_lt.mpr h.2), fun h2 => absurd (n2.mp h2) (Int32.not_lt.mpr h.1)⟩, fun h => ⟨Int32.not_lt.mp fun h2 => h.2 (n2.mpr h2), Int32.not_lt.mp fun h2 => h.1 (n1.mpr h2)⟩⟩
  refine ev_X7_fillReadings ?_ (Nat.le_of_ble_eq_true rfl)
  refine x_lo (lo' := [some (.ref 6), some (.int (nI c)), some (.ref q), none, none, none]) rfl ?_
  refine x_al rfl rfl ?_
  refine x_getC rfl hn (by with_reducible exact (by first | exact sp_6 | exact st_0 (by assumption))) (by exact rfl) ?_
  refine x_il rfl rfl ?_
  refine x_aaC rfl hn (by with_reducible exact sp_9) (by decide) (by omega) ?_
  refine x_call1 (c_choices hP (caA (by omega)) hn) rfl (Nat.le_of_ble_eq_true rfl) (Or.inl (by first | exact hn | assumption)) (rcv_at (cw_fs (by with_reducible exact ca_0 (by first | assumption | exact caA (by omega) | exact caB (by assumption) (by omega))) hn) (by decide) (by decide)) (Nat.le_of_ble_eq_true rfl) (Nat.le_of_ble_eq_true rfl) (fun E w9 hq => hq.elim) ?_
  rintro v9 w9 ⟨rfl, rfl⟩
  refine x_is (lo' := [_, _, _, _, _, _]) rfl (Nat.le_of_ble_eq_true rfl) rfl ?_
  refine x_c rfl ?_
  refine x_is (lo' := [_, _, _, _, _, _]) rfl (Nat.le_of_ble_eq_true rfl) rfl ?_
  refine x_c rfl ?_
  refine x_is (lo' := [_, _, _, _, _, _]) rfl (Nat.le_of_ble_eq_true rfl) rfl ?_
  have loop : ∀ i, i ≤ nD f c → i < nD f c → ∀ r, (∀ j, j < i → r j = nI (vD f c j)) → EX g mbOf (Ev g (d + 5)) (infoOf 82) k_X7_fillReadings (filQ w F A L f c q) noX w.1 (cW w F (udA A q r) L) 0 0 10 [some (.ref 6), some (.int (nI c)), some (.ref q), some (.int (nI (dbN f c))), some (.int (nI (sqD (dbN f c) i))), some (.int (nI i))] [] := by
    refine downN (nD f c) fun i hi ih => ?_
    intro hi r hr
    obtain ⟨s1, s2, s3, s4⟩ := m3 i hi
    have ih := ih hi
    have hR1 : RS F (udA A q r) f 6 np nm nc nt ns nh := hR.keep hI (fun q' h1 h2 => ⟨rfl, udA_ne (by omega)⟩)
    refine x_il rfl rfl ?_
    refine x_al rfl rfl ?_
    refine x_lenC rfl hn (by first | assumption | with_reducible exact sp_7 | with_reducible exact sp_8) ?_
    refine x_icgeN (y := 16) rfl (by omega) (fun c0 => ?_) (fun c0 => ?_)
    · refine x_al rfl rfl ?_
      refine x_lenC rfl hn (by first | assumption | with_reducible exact sp_7 | with_reducible exact sp_8) ?_
      refine x_reti rfl (Nat.le_of_ble_eq_true rfl) (Nat.le_of_ble_eq_true rfl) rfl ?_
      omega
    refine x_al rfl rfl ?_
    refine x_il rfl rfl ?_
    refine x_al rfl rfl ?_
    refine x_il rfl rfl ?_
    refine x_il rfl rfl ?_
    refine x_call3 (c_readingOf (b := sqD (dbN f c) i) hR1 hI hc s1 hn) rfl (Nat.le_of_ble_eq_true rfl) (Or.inl (by first | exact hn | assumption)) (rcv_at (cw_fs (by with_reducible exact (by first | exact sp_6 | exact st_0 (by assumption))) hn) (by decide) (by decide)) (Nat.le_of_ble_eq_true rfl) (Nat.le_of_ble_eq_true rfl) (fun E w9 hq => hq.elim) ?_
    rintro v9 w9 ⟨rfl, rfl⟩
    refine x_iasC rfl hn (by first | assumption | with_reducible exact sp_7 | with_reducible exact sp_8) (by omega) ?_
    refine x_il rfl rfl ?_
    refine x_il rfl rfl ?_
    simp only [udA_t, udA_udA]
    refine x_sub rfl ?_
    refine x_il rfl rfl ?_
    rw [nI_wrap dbN_lt]
    refine x_and rfl ?_
    rw [nI_and, show ((sqD (dbN f c) i + 4294967296 - dbN f c) % 4294967296) &&& dbN f c = sqD (dbN f c) (i + 1) from rfl]
    have hr2 : ∀ j, j < i + 1 → upd r i (nI (DN f c (sqD (dbN f c) i) 0 10)) j = nI (vD f c j) := fun j hj => by
      by_cases e : j = i
      · subst e; exact upd_at
      · rw [upd_ne e]; exact hr j (by omega)
    have hb : sqD (dbN f c) (i + 1) < 1024 := Nat.lt_of_le_of_lt Nat.and_le_right dbN_lt
    refine x_is (lo' := [_, _, _, _, _, _]) rfl (Nat.le_of_ble_eq_true rfl) rfl ?_
    refine x_il rfl rfl ?_
    refine x_ifne rfl (fun c1 => ?_) (fun c1 => ?_)
    · refine x_inc1 (lo' := [_, _, _, _, _, _]) rfl rfl rfl ?_
      refine x_go rfl ?_
      have h2 : ¬ i + 1 = nD f c := fun h => c1 (by rw [s4.mpr h]; rfl)
      exact ih (by omega) _ hr2
    refine x_il rfl rfl ?_
    refine x_c rfl ?_
    refine x_addN (y := 1) rfl ?_
    refine x_reti rfl (Nat.le_of_ble_eq_true rfl) (Nat.le_of_ble_eq_true rfl) rfl ?_
    have h2 : i + 1 = nD f c := s4.mp (by
      have h3 := congrArg cN c1
      rw [show cN (nI (sqD (dbN f c) (i + 1))) = sqD (dbN f c) (i + 1) from nI_clamp (by omega)] at h3
      exact h3)
    refine ⟨by rw [h2], _, rfl, fun j hj => hr2 j (by omega)⟩
  have := loop 0 (Nat.zero_le _) (by omega) (A q) (fun j h => absurd h (Nat.not_lt_zero _))
  rw [udA_self] at this
  exact this
theorem c_hasIn {q n m : Nat} {x : Int32} (hs : shp q = .ia m) (hm : m < 2 ^ 31) (hnm : n ≤ m) (hn : w.1 = N0) : Ev g (d + 1) 131 [.ref q, .int (nI n), .int x] (cW w F A L) (fun v w' => (v = some (.int 1) ∧ (∃ i, i < n ∧ A q i = x) ∨ v = some (.int 0) ∧ ¬ ∃ i, i < n ∧ A q i = x) ∧ w' = cW w F A L) noX := by
  have loop : ∀ i, i ≤ n → (∀ j, j < i → ¬ A q j = x) → EX g mbOf (Ev g (d)) (infoOf 131) k_X10_holds (fun v w' => (v = some (.int 1) ∧ (∃ i, i < n ∧ A q i = x) ∨ v = some (.int 0) ∧ ¬ ∃ i, i < n ∧ A q i = x) ∧ w' = cW w F A L) noX w.1 (cW w F A L) 0 0 2 [some (.ref q), some (.int (nI n)), some (.int x), some (.int (nI i))] [] := by
    refine downN n fun i hi ih => ?_
    intro hx
    refine x_il rfl rfl ?_
    refine x_il rfl rfl ?_
    refine x_icgeN rfl (by omega) (fun c0 => ?_) (fun c0 => ?_)
    · refine x_c rfl ?_
      refine x_retz rfl (Nat.le_of_ble_eq_true rfl) (Nat.le_of_ble_eq_true rfl) rfl (by first | rfl | assumption | exact bI_01 _) ?_
      obtain rfl : i = n := by omega
      exact ⟨Or.inr ⟨rfl, fun ⟨j, h1, h2⟩ => hx j h1 h2⟩, rfl⟩
    refine x_il rfl rfl ?_
    refine x_al rfl rfl ?_
    refine x_lenC rfl hn (by first | assumption | with_reducible exact sp_7 | with_reducible exact sp_8) ?_
    have ih := ih c0
    refine x_icgeN rfl (by omega) (fun c1 => ?_) (fun c1 => ?_)
    · refine x_c rfl ?_
      refine x_retz rfl (Nat.le_of_ble_eq_true rfl) (Nat.le_of_ble_eq_true rfl) rfl (by first | rfl | assumption | exact bI_01 _) ?_
      omega
    refine x_al rfl rfl ?_
    refine x_il rfl rfl ?_
    refine x_iaC rfl hn (by first | assumption | with_reducible exact sp_7 | with_reducible exact sp_8) (by omega) ?_
    refine x_il rfl rfl ?_
    refine x_icne rfl (fun c2 => ?_) (fun c2 => ?_)
    · refine x_inc1 (lo' := [_, _, _, _]) rfl rfl rfl ?_
      refine x_go rfl ?_
      exact ih fun j hj => by
        by_cases e : j = i
        · subst e; exact c2
        · exact hx j (by omega)
    refine x_c rfl ?_
    refine x_retz rfl (Nat.le_of_ble_eq_true rfl) (Nat.le_of_ble_eq_true rfl) rfl (by first | rfl | assumption | exact bI_01 _) ?_
    exact ⟨Or.inl ⟨rfl, i, c0, by first | exact c2 | exact Classical.not_not.mp c2⟩, rfl⟩
  refine ev_X10_holds ?_ (Nat.le_of_ble_eq_true rfl)
  refine x_lo (lo' := [some (.ref q), some (.int (nI n)), some (.int x), none]) rfl ?_
  refine x_c rfl ?_
  refine x_is (lo' := [_, _, _, _]) rfl (Nat.le_of_ble_eq_true rfl) rfl ?_
  exact loop 0 (Nat.zero_le _) (fun j h => absurd h (Nat.not_lt_zero _))
end CALLS
