/-! persons; cw_ -/
/-- everyone's leader is nobody, or a card not behind him -/
def LdI (h : Nat → Int32) (nc : Nat) : Prop := ∀ j, j < nc → h j = -1 ∨ ∃ i, i ≤ j ∧ h j = nI i
theorem mrg_at {lo hi : Int32} {g : Nat → Int32} : ∀ n j, mrg lo hi g n j = if j < n ∧ g j = hi then lo else g j := by
  intro n
  induction n with
  | zero => intro j; rw [if_neg (fun h => by omega)]; rfl
  | succ n ih =>
    intro j
    show upd (mrg lo hi g n) n (if mrg lo hi g n n = hi then lo else mrg lo hi g n n) j = _
    by_cases e : j = n
    · subst e
      have e0 : mrg lo hi g j j = g j := by rw [ih, if_neg (fun h => absurd h.1 (Nat.lt_irrefl _))]
      rw [upd_at, e0]
      by_cases h : g j = hi
      · rw [if_pos h, if_pos ⟨by omega, h⟩]
      · rw [if_neg h, if_neg (fun h2 => h h2.2)]
    · rw [upd_ne e, ih]
      by_cases h : g j = hi
      · by_cases h2 : j < n
        · rw [if_pos ⟨h2, h⟩, if_pos ⟨by omega, h⟩]
        · rw [if_neg (fun h3 => h2 h3.1), if_neg (fun h3 => by omega)]
      · rw [if_neg (fun h2 => h h2.2), if_neg (fun h2 => h h2.2)]
theorem minI_n {a b : Nat} (ha : a < 2 ^ 31) (hb : b < 2 ^ 31) : minI (nI a) (nI b) = nI (min a b) := by
  unfold minI
  by_cases h : a ≤ b
  · rw [if_pos ((nI_leI ha hb).mpr h), Nat.min_eq_left h]
  · rw [if_neg (fun h2 => h ((nI_leI ha hb).mp h2)), Nat.min_eq_right (by omega)]
theorem maxI_n {a b : Nat} (ha : a < 2 ^ 31) (hb : b < 2 ^ 31) : maxI (nI a) (nI b) = nI (max a b) := by
  unfold maxI
  by_cases h : b ≤ a
  · rw [if_pos ((nI_leI hb ha).mpr h), Nat.max_eq_left h]
  · rw [if_neg (fun h2 => h ((nI_leI hb ha).mp h2)), Nat.max_eq_right (by omega)]
theorem LdI.mrg {h : Nat → Int32} {nc a b : Nat} (hI : LdI h nc) (h16 : nc ≤ 16) (ha : a < nc) (hb : b < nc) (h1 : ¬ h a < 0) (h2 : ¬ h b < 0) : LdI (mrg (minI (h a) (h b)) (maxI (h a) (h b)) h nc) nc := by
  intro j hj
  rcases hI a ha with e1 | ⟨ia, ha1, ea⟩
  · exact absurd (by rw [e1]; decide) h1
  rcases hI b hb with e1 | ⟨ib, hb1, eb⟩
  · exact absurd (by rw [e1]; decide) h2
  rw [mrg_at, ea, eb, minI_n (by omega) (by omega), maxI_n (by omega) (by omega)]
  by_cases e : h j = nI (max ia ib)
  · rw [if_pos ⟨hj, e⟩]
    rcases hI j hj with e1 | ⟨ij, hj1, ej⟩
    · exact absurd (e1.symm.trans e).symm (nI_m1 (by omega))
    · have := (nI_eq (by omega) (by omega)).mp (ej.symm.trans e)
      exact Or.inr ⟨min ia ib, by omega, rfl⟩
  · rw [if_neg (fun h3 => e h3.2)]
    exact hI j hj
theorem jS_b {f : Nat → Int32} {n nc a b : Nat} {day need : Int32} {h : Nat → Int32} (hI : LdI h nc) (h16 : nc ≤ 16) (ha : a < nc) (hb : b < nc) : LdI (jS f n nc day need a b h) nc := by
  unfold jS
  by_cases e : h a < 0 ∨ h b < 0 ∨ h a = h b ∨ nI (alkN f n (min a b) (max a b) day 10) < need
  · rw [if_pos e]; exact hI
  · rw [if_neg e]
    exact hI.mrg h16 ha hb (fun h => e (Or.inl h)) (fun h => e (Or.inr (Or.inl h)))
theorem lst0_at {f : Nat → Int32} {day : Int32} {old : Nat → Int32} : ∀ n j, j < n → lst0 f day old n j = if thereP f j day then nI j else -1 := by
  intro n
  induction n with
  | zero => intro j hj; omega
  | succ n ih =>
    intro j hj
    show upd (lst0 f day old n) n (if thereP f n day then nI n else -1) j = _
    by_cases e : j = n
    · subst e; exact upd_at
    · rw [upd_ne e]; exact ih j (by omega)
theorem lst0_I {f : Nat → Int32} {day : Int32} {old : Nat → Int32} {nc : Nat} : LdI (lst0 f day old nc) nc := by
  intro j hj
  rw [lst0_at nc j hj]
  by_cases e : thereP f j day
  · rw [if_pos e]; exact Or.inr ⟨j, Nat.le_refl _, rfl⟩
  · rw [if_neg e]; exact Or.inl rfl
section CALLS
variable {g : aG} {d : Nat} {w : aW} {F A : Nat → Nat → Int32} {L : Nat → Int64} {f : Nat → Int32} {np nm nc nt ns nh v : Nat}
theorem c_isThereOn {c : Nat} {day : Int32} (hR : RS F A f 6 np nm nc nt ns nh) (hI : IV f np nm nc nt ns nh) (hc : c < nc) (hn : w.1 = N0) : Ev g (d + 1) 5 [.ref (561 + 5 * c), .int day] (cW w F A L) (RetQ (bI (decide (thereP f c day))) (cW w F A L)) noX := by
  have h16 := hI.c16
  have hC := hR.ca hc
  have hN := (hI.ca hc).2.1.neg
  refine ev_X0_isThereOn ?_ (Nat.le_of_ble_eq_true rfl)
  refine x_lo (lo' := [some (.ref (561 + 5 * c)), some (.int day)]) rfl ?_
  refine x_al rfl rfl ?_
  refine x_getC rfl hn (by with_reducible exact ca_0 (by first | assumption | exact caA (by omega) | exact caB (by assumption) (by omega))) (by exact rfl) ?_
  refine x_il rfl rfl ?_
  rw [hC.1.2.1]
  refine x_icgt rfl (fun c1 => ?_) (fun c1 => ?_)
  · refine x_c rfl ?_
    refine x_retz rfl (Nat.le_of_ble_eq_true rfl) (Nat.le_of_ble_eq_true rfl) rfl (by first | rfl | assumption) ?_
    exact ret_f (fun h => absurd h.1 (Int32.not_le.mpr c1))
  refine x_al rfl rfl ?_
  refine x_getC rfl hn (by with_reducible exact ca_0 (by first | assumption | exact caA (by omega) | exact caB (by assumption) (by omega))) (by exact rfl) ?_
  refine x_c rfl ?_
  rw [hC.1.2.2]
  refine x_iceq rfl (fun c2 => ?_) (fun c2 => ?_)
  · refine x_c rfl ?_
    refine x_go rfl ?_
    refine x_retz rfl (Nat.le_of_ble_eq_true rfl) (Nat.le_of_ble_eq_true rfl) rfl (by first | rfl | assumption) ?_
    exact ret_t ⟨Int32.not_lt.mp c1, Or.inl (hN.mp c2)⟩
  refine x_al rfl rfl ?_
  refine x_getC rfl hn (by with_reducible exact ca_0 (by first | assumption | exact caA (by omega) | exact caB (by assumption) (by omega))) (by exact rfl) ?_
  refine x_il rfl rfl ?_
  rw [hC.1.2.2]
  refine x_icle rfl (fun c3 => ?_) (fun c3 => ?_)
  · refine x_c rfl ?_
    refine x_retz rfl (Nat.le_of_ble_eq_true rfl) (Nat.le_of_ble_eq_true rfl) rfl (by first | rfl | assumption) ?_
    exact ret_f (fun h => h.2.elim (fun h => c2 (hN.mpr h)) (fun h => absurd h (Int32.not_lt.mpr c3)))
  refine x_c rfl ?_
  refine x_go rfl ?_
  refine x_retz rfl (Nat.le_of_ble_eq_true rfl) (Nat.le_of_ble_eq_true rfl) rfl (by first | rfl | assumption) ?_
  exact ret_t ⟨Int32.not_lt.mp c1, Or.inr (Int32.not_le.mp c3)⟩
theorem c_joinPersons {x y : Int32} (hc : F 6 6 = nI nc) (h16 : nc ≤ 16) (hn : w.1 = N0) : Ev g (d + 2) 148 [.ref 0, .int x, .int y] (cW w F A L) (VoidQ (cW w F (udA A 1423 (mrg (minI x y) (maxI x y) (A 1423) nc)) L)) noX := by
  have loop : ∀ c, c ≤ nc → EX g mbOf (Ev g (d + 1)) (infoOf 148) k_X10_joinPersons (VoidQ (cW w F (udA A 1423 (mrg (minI x y) (maxI x y) (A 1423) nc)) L)) noX w.1 (cW w F (udA A 1423 (mrg (minI x y) (maxI x y) (A 1423) c)) L) 0 0 10 [some (.ref 0), some (.int x), some (.int y), some (.int (minI x y)), some (.int (maxI x y)), some (.int (nI c))] [] := by
    refine downN nc fun c hcn ih => ?_
    refine x_il rfl rfl ?_
    refine x_al rfl rfl ?_
    refine x_getC rfl hn (by with_reducible exact sp_0) (by exact rfl) ?_
    refine x_getC rfl hn (by with_reducible exact (by first | exact sp_6 | exact st_0 (by assumption))) (by exact rfl) ?_
    rw [hc]
    refine x_icgeN rfl (by omega) (fun c0 => ?_) (fun c0 => ?_)
    · refine x_retv rfl (Nat.le_of_ble_eq_true rfl) (Nat.le_of_ble_eq_true rfl) rfl ?_
      obtain rfl : c = nc := by omega
      exact ⟨rfl, rfl⟩
    refine x_al rfl rfl ?_
    refine x_getC rfl hn (by with_reducible exact sp_0) (by exact rfl) ?_
    refine x_il rfl rfl ?_
    refine x_iaC rfl hn (by with_reducible exact sp_1423) (by omega) ?_
    refine x_il rfl rfl ?_
    have ih := ih c0
    rw [show mrg (minI x y) (maxI x y) (A 1423) (c + 1) = upd (mrg (minI x y) (maxI x y) (A 1423) c) c (if mrg (minI x y) (maxI x y) (A 1423) c c = maxI x y then minI x y else mrg (minI x y) (maxI x y) (A 1423) c c) from rfl] at ih
    generalize mrg (minI x y) (maxI x y) (A 1423) c = g1 at *
    rw [udA_t]
    refine x_icne rfl (fun c1 => ?_) (fun c1 => ?_)
    · skip
      rw [if_neg c1, upd_self] at ih
      refine x_inc1 (lo' := [_, _, _, _, _, _]) rfl rfl rfl ?_
      refine x_go rfl ?_
      exact ih
    refine x_al rfl rfl ?_
    refine x_getC rfl hn (by with_reducible exact sp_0) (by exact rfl) ?_
    refine x_il rfl rfl ?_
    refine x_il rfl rfl ?_
    refine x_iasC rfl hn (by with_reducible exact sp_1423) (by omega) ?_
    rw [if_pos c1] at ih
    rw [udA_udA, udA_t]
    refine x_inc1 (lo' := [_, _, _, _, _, _]) rfl rfl rfl ?_
    refine x_go rfl ?_
    exact ih
  refine ev_X10_joinPersons ?_ (Nat.le_of_ble_eq_true rfl)
  refine x_lo (lo' := [some (.ref 0), some (.int x), some (.int y), none, none, none]) rfl ?_
  refine x_il rfl rfl ?_
  refine x_il rfl rfl ?_
  refine x_call2 (m_min) rfl (Nat.le_of_ble_eq_true rfl) (Or.inl (by first | exact hn | assumption)) trivial (Nat.le_of_ble_eq_true rfl) (Nat.le_of_ble_eq_true rfl) (fun E w9 hq => hq.elim) ?_
  rintro v9 w9 ⟨rfl, rfl⟩
  refine x_is (lo' := [_, _, _, _, _, _]) rfl (Nat.le_of_ble_eq_true rfl) rfl ?_
  refine x_il rfl rfl ?_
  refine x_il rfl rfl ?_
  refine x_call2 (m_max) rfl (Nat.le_of_ble_eq_true rfl) (Or.inl (by first | exact hn | assumption)) trivial (Nat.le_of_ble_eq_true rfl) (Nat.le_of_ble_eq_true rfl) (fun E w9 hq => hq.elim) ?_
  rintro v9 w9 ⟨rfl, rfl⟩
  refine x_is (lo' := [_, _, _, _, _, _]) rfl (Nat.le_of_ble_eq_true rfl) rfl ?_
  refine x_c rfl ?_
  refine x_is (lo' := [_, _, _, _, _, _]) rfl (Nat.le_of_ble_eq_true rfl) rfl ?_
  have := loop 0 (Nat.zero_le _)
  rw [show mrg (minI x y) (maxI x y) (A 1423) 0 = A 1423 from rfl, udA_self] at this
  exact this
theorem jB_s {f : Nat → Int32} {n nc a k : Nat} {day need : Int32} {h : Nat → Int32} : jB f n nc day need a h (k + 1) = jS f n nc day need a (a + 1 + k) (jB f n nc day need a h k) := rfl
theorem jA_s {f : Nat → Int32} {n nc a : Nat} {day need : Int32} {h : Nat → Int32} : jA f n nc day need h (a + 1) = jB f n nc day need a (jA f n nc day need h a) (nc - (a + 1)) := rfl
/-- the leaders of the day -/
def gpQ (w : aW) (F A : Nat → Nat → Int32) (f : Nat → Int32) (np nm v nc : Nat) (R : Nat → Int32) : Option Value → aW → Prop := fun r w' => r = none ∧ ∃ F' A' L', w' = cW w F' A' L' ∧ (∀ q, (q < 1396 ∨ q = 1409) → F' q = F q ∧ A' q = A q) ∧ KI F' A' f np nm v ∧ A' 1423 = R ∧ LdI R nc
theorem c_groupPersons {day : Int32} (hK : KI F A f np nm v) (hR : RS F A f 6 np nm nc nt ns nh) (hI : IV f np nm nc nt ns nh) (hn : w.1 = N0) : Ev g (d + 15) 147 [.ref 0, .int day] (cW w F A L) (gpQ w F A f np nm v nc (leastF f nt nc day (A 1423))) noX := by
  have h16 := hI.c16
  have h10 := hI.t10
  have hcnt : F 6 6 = nI nc := hR.1.2.2.2.2.2.2.1
  unfold leastF
  generalize hnd : lastF f (bestT f day nt) 3 3 = need
  have loopA : ∀ a, a ≤ nc → ∀ F1 A1 L1 l4, (∀ q, (q < 1396 ∨ q = 1409) → F1 q = F q ∧ A1 q = A q) → KI F1 A1 f np nm v → A1 1423 = jA f nt nc day need (lst0 f day (A 1423) nc) a → LdI (A1 1423) nc → EX g mbOf (Ev g (d + 14)) (infoOf 147) k_X10_groupPersons (gpQ w F A f np nm v nc (jA f nt nc day need (lst0 f day (A 1423) nc) nc)) noX w.1 (cW w F1 A1 L1) 0 0 34 [some (.ref 0), some (.int day), some (.int need), some (.int (nI a)), l4] [] := by
    refine downN nc fun a ha ih => ?_
    intro F1 A1 L1 l4 hs hK1 e1 hl1
    refine x_il rfl rfl ?_
    refine x_al rfl rfl ?_
    refine x_getC rfl hn (by with_reducible exact sp_0) (by exact rfl) ?_
    refine x_getC rfl hn (by with_reducible exact (by first | exact sp_6 | exact st_0 (by assumption))) (by exact rfl) ?_
    rw [(hs 6 (by omega)).1, hcnt]
    refine x_icgeN rfl (by omega) (fun c0 => ?_) (fun c0 => ?_)
    · refine x_retv rfl (Nat.le_of_ble_eq_true rfl) (Nat.le_of_ble_eq_true rfl) rfl ?_
      obtain rfl : a = nc := by omega
      exact ⟨rfl, F1, A1, L1, rfl, hs, hK1, e1, by rw [← e1]; exact hl1⟩
    refine x_il rfl rfl ?_
    refine x_c rfl ?_
    refine x_addN (y := 1) rfl ?_
    refine x_is (lo' := [_, _, _, _, _]) rfl (Nat.le_of_ble_eq_true rfl) rfl ?_
    have ih := ih c0
    rw [jA_s, ← e1] at ih
    have loopB : ∀ k, k ≤ nc - (a + 1) → ∀ F2 A2 L2, (∀ q, (q < 1396 ∨ q = 1409) → F2 q = F q ∧ A2 q = A q) → KI F2 A2 f np nm v → A2 1423 = jB f nt nc day need a (A1 1423) k → LdI (A2 1423) nc → EX g mbOf (Ev g (d + 14)) (infoOf 147) k_X10_groupPersons (gpQ w F A f np nm v nc (jA f nt nc day need (lst0 f day (A 1423) nc) nc)) noX w.1 (cW w F2 A2 L2) 0 0 43 [some (.ref 0), some (.int day), some (.int need), some (.int (nI a)), some (.int (nI (a + 1 + k)))] [] := by
      refine downN _ fun k hk ihb => ?_
      intro F2 A2 L2 hs2 hK2 e2 hl2
      refine x_il rfl rfl ?_
      refine x_al rfl rfl ?_
      refine x_getC rfl hn (by with_reducible exact sp_0) (by exact rfl) ?_
      refine x_getC rfl hn (by with_reducible exact (by first | exact sp_6 | exact st_0 (by assumption))) (by exact rfl) ?_
      rw [(hs2 6 (by omega)).1, hcnt]
      refine x_icgeN rfl (by omega) (fun c1 => ?_) (fun c1 => ?_)
      · refine x_inc1 (lo' := [_, _, _, _, _]) rfl rfl rfl ?_
        refine x_go rfl ?_
        obtain rfl : k = nc - (a + 1) := by omega
        exact ih _ _ _ _ hs2 hK2 e2 hl2
      refine x_al rfl rfl ?_
      refine x_getC rfl hn (by with_reducible exact sp_0) (by exact rfl) ?_
      refine x_il rfl rfl ?_
      refine x_iaC rfl hn (by with_reducible exact sp_1423) (by omega) ?_
      refine x_c rfl ?_
      have ihb := ihb (by omega)
      rw [jB_s, ← e2] at ihb
      have hjI := jS_b (f := f) (n := nt) (day := day) (need := need) hl2 h16 c0 (show a + 1 + k < nc by omega)
      have hmn : min a (a + 1 + k) = a := by omega
      have hmx : max a (a + 1 + k) = a + 1 + k := by omega
      have skip : (A2 1423 a < 0 ∨ A2 1423 (a + 1 + k) < 0 ∨ A2 1423 a = A2 1423 (a + 1 + k) ∨ nI (alkN f nt a (a + 1 + k) day 10) < need) → ∀ F3 A3 L3, (∀ q, (q < 1396 ∨ q = 1409) → F3 q = F q ∧ A3 q = A q) → KI F3 A3 f np nm v → A3 1423 = A2 1423 → EX g mbOf (Ev g (d + 14)) (infoOf 147) k_X10_groupPersons (gpQ w F A f np nm v nc (jA f nt nc day need (lst0 f day (A 1423) nc) nc)) noX w.1 (cW w F3 A3 L3) 0 0 86 [some (.ref 0), some (.int day), some (.int need), some (.int (nI a)), some (.int (nI (a + 1 + k)))] [] := by
        intro hsk F3 A3 L3 hs3 hK3 e3
        refine x_inc1 (lo' := [_, _, _, _, _]) rfl rfl rfl ?_
        refine x_go rfl ?_
        have ej : jS f nt nc day need a (a + 1 + k) (A2 1423) = A2 1423 := by
          unfold jS
          rw [hmn, hmx, if_pos hsk]
        rw [ej] at ihb hjI
        exact ihb _ _ _ hs3 hK3 e3 (by rw [e3]; exact hl2)
      have ngs : ∀ j, j < nc → (A2 1423 j = -1 ↔ A2 1423 j < 0) := fun j hj => by
        rcases hl2 j hj with e | ⟨i, hi, e⟩
        · rw [e]; exact ⟨fun _ => by decide, fun _ => rfl⟩
        · rw [e]; exact ⟨fun h => absurd h (nI_m1 (by omega)), fun h => absurd h (nI_pos (by omega))⟩
      refine x_iceq rfl (fun d1 => ?_) (fun d1 => ?_)
      · skip
        exact skip (Or.inl ((ngs a c0).mp d1)) _ _ _ hs2 hK2 rfl
      refine x_al rfl rfl ?_
      refine x_getC rfl hn (by with_reducible exact sp_0) (by exact rfl) ?_
      refine x_il rfl rfl ?_
      refine x_iaC rfl hn (by with_reducible exact sp_1423) (by omega) ?_
      refine x_c rfl ?_
      refine x_iceq rfl (fun d2 => ?_) (fun d2 => ?_)
      · skip
        exact skip (Or.inr (Or.inl ((ngs _ (by omega)).mp d2))) _ _ _ hs2 hK2 rfl
      refine x_al rfl rfl ?_
      refine x_getC rfl hn (by with_reducible exact sp_0) (by exact rfl) ?_
      refine x_il rfl rfl ?_
      refine x_iaC rfl hn (by with_reducible exact sp_1423) (by omega) ?_
      refine x_al rfl rfl ?_
      refine x_getC rfl hn (by with_reducible exact sp_0) (by exact rfl) ?_
      refine x_il rfl rfl ?_
      refine x_iaC rfl hn (by with_reducible exact sp_1423) (by omega) ?_
      refine x_iceq rfl (fun d3 => ?_) (fun d3 => ?_)
      · skip
        exact skip (Or.inr (Or.inr (Or.inl d3))) _ _ _ hs2 hK2 rfl
      refine x_al rfl rfl ?_
      refine x_il rfl rfl ?_
      refine x_il rfl rfl ?_
      refine x_il rfl rfl ?_
      have hR2 := hR.keep hI (fun q h1 h2 => hs2 q (by omega))
      refine x_call4 (c_alikeFingers (b := a + 1 + k) hK2 hR2 hI c0 (by omega) hn) rfl (Nat.le_of_ble_eq_true rfl) (Or.inl (by first | exact hn | assumption)) (rcv_at (cw_fs (by with_reducible exact sp_0) hn) (by decide) (by decide)) (Nat.le_of_ble_eq_true rfl) (Nat.le_of_ble_eq_true rfl) (fun E w9 hq => hq.elim) ?_
      rintro v9 w9 ⟨F3, A3, L3, rfl, hs3, hK3, rfl⟩
      refine x_il rfl rfl ?_
      have hs4 : ∀ q, (q < 1396 ∨ q = 1409) → F3 q = F q ∧ A3 q = A q := fun q hq => ⟨(hs3 q (by omega)).1.trans (hs2 q hq).1, (hs3 q (by omega)).2.trans (hs2 q hq).2⟩
      have e23 : A3 1423 = A2 1423 := (hs3 1423 (by omega)).2
      refine x_iclt rfl (fun d4 => ?_) (fun d4 => ?_)
      · skip
        exact skip (Or.inr (Or.inr (Or.inr d4))) _ _ _ hs4 hK3 e23
      refine x_al rfl rfl ?_
      refine x_al rfl rfl ?_
      refine x_getC rfl hn (by with_reducible exact sp_0) (by exact rfl) ?_
      refine x_il rfl rfl ?_
      refine x_iaC rfl hn (by with_reducible exact sp_1423) (by omega) ?_
      refine x_al rfl rfl ?_
      refine x_getC rfl hn (by with_reducible exact sp_0) (by exact rfl) ?_
      refine x_il rfl rfl ?_
      refine x_iaC rfl hn (by with_reducible exact sp_1423) (by omega) ?_
      rw [e23]
      refine x_call3 (c_joinPersons (nc := nc) (by rw [(hs4 6 (by omega)).1]; exact hcnt) h16 hn) rfl (Nat.le_of_ble_eq_true rfl) (Or.inl (by first | exact hn | assumption)) (rcv_at (cw_fs (by with_reducible exact sp_0) hn) (by decide) (by decide)) (Nat.le_of_ble_eq_true rfl) (Nat.le_of_ble_eq_true rfl) (fun E w9 hq => hq.elim) ?_
      rintro v9 w9 ⟨rfl, rfl⟩
      refine x_inc1 (lo' := [_, _, _, _, _]) rfl rfl rfl ?_
      refine x_go rfl ?_
      have ej : jS f nt nc day need a (a + 1 + k) (A2 1423) = mrg (minI (A2 1423 a) (A2 1423 (a + 1 + k))) (maxI (A2 1423 a) (A2 1423 (a + 1 + k))) (A2 1423) nc := by
        unfold jS
        rw [hmn, hmx, if_neg]
        intro h
        rcases h with h | h | h | h
        · exact d1 ((ngs a c0).mpr h)
        · exact d2 ((ngs _ (by omega)).mpr h)
        · exact d3 h
        · exact d4 h
      rw [ej] at ihb hjI
      rw [e23]
      exact ihb _ _ _ (fun q hq => ⟨(hs4 q hq).1, by rw [udA_ne (by omega)]; exact (hs4 q hq).2⟩) hK3 udA_t (by rw [udA_t]; exact hjI)
    exact loopB 0 (Nat.zero_le _) _ _ _ hs hK1 rfl hl1
  have loop1 : ∀ c, c ≤ nc → ∀ l3 l4, EX g mbOf (Ev g (d + 14)) (infoOf 147) k_X10_groupPersons (gpQ w F A f np nm v nc (jA f nt nc day need (lst0 f day (A 1423) nc) nc)) noX w.1 (cW w F (udA A 1423 (lst0 f day (A 1423) c)) L) 0 0 2 [some (.ref 0), some (.int day), some (.int (nI c)), l3, l4] [] := by
    refine downN nc fun c hc ih => ?_
    intro l3 l4
    have hR1 : RS F (udA A 1423 (lst0 f day (A 1423) c)) f 6 np nm nc nt ns nh := hR.keep hI (fun q h1 h2 => ⟨rfl, udA_ne (by omega)⟩)
    refine x_il rfl rfl ?_
    refine x_al rfl rfl ?_
    refine x_getC rfl hn (by with_reducible exact sp_0) (by exact rfl) ?_
    refine x_getC rfl hn (by with_reducible exact (by first | exact sp_6 | exact st_0 (by assumption))) (by exact rfl) ?_
    rw [hcnt]
    refine x_icgeN rfl (by omega) (fun c0 => ?_) (fun c0 => ?_)
    · refine x_al rfl rfl ?_
      refine x_getC rfl hn (by with_reducible exact sp_0) (by exact rfl) ?_
      refine x_il rfl rfl ?_
      obtain rfl : c = nc := by omega
      refine x_call2 (c_textOn (day := day) hR1 h10 hn) rfl (Nat.le_of_ble_eq_true rfl) (Or.inl (by first | exact hn | assumption)) (rcv_at (cw_fs (by with_reducible exact (by first | exact sp_6 | exact st_0 (by assumption))) hn) (by decide) (by decide)) (Nat.le_of_ble_eq_true rfl) (Nat.le_of_ble_eq_true rfl) (fun E w9 hq => hq.elim) ?_
      rintro v9 w9 ⟨rfl, rfl⟩
      refine x_c rfl ?_
      refine x_c rfl ?_
      refine x_call3 (c_lastNumber (te_b h10) (hR1.txo day) hn) rfl (Nat.le_of_ble_eq_true rfl) (Or.inl (by first | exact hn | assumption)) (rcv_at (cw_fs (by with_reducible exact te_0 (by first | assumption | exact teA (by omega) | exact teN | exact teD | exact te_b (by assumption) | exact teB (by assumption) (by omega))) hn) (by decide) (by decide)) (Nat.le_of_ble_eq_true rfl) (Nat.le_of_ble_eq_true rfl) (fun E w9 hq => hq.elim) ?_
      rintro v9 w9 ⟨rfl, rfl⟩
      refine x_is (lo' := [_, _, _, _, _]) rfl (Nat.le_of_ble_eq_true rfl) rfl ?_
      refine x_c rfl ?_
      refine x_is (lo' := [_, _, _, _, _]) rfl (Nat.le_of_ble_eq_true rfl) rfl ?_
      rw [hnd]
      exact loopA 0 (Nat.zero_le _) _ _ _ _ (fun q hq => ⟨rfl, udA_ne (by omega)⟩) hK udA_t (by rw [udA_t]; exact lst0_I)
    refine x_al rfl rfl ?_
    refine x_getC rfl hn (by with_reducible exact sp_0) (by exact rfl) ?_
    refine x_il rfl rfl ?_
    refine x_al rfl rfl ?_
    refine x_getC rfl hn (by with_reducible exact sp_0) (by exact rfl) ?_
    refine x_getC rfl hn (by with_reducible exact (by first | exact sp_6 | exact st_0 (by assumption))) (by exact rfl) ?_
    refine x_il rfl rfl ?_
    refine x_aaC rfl hn (by with_reducible exact sp_9) (by decide) (by omega) ?_
    refine x_il rfl rfl ?_
    have ih := ih c0
    rw [show lst0 f day (A 1423) (c + 1) = upd (lst0 f day (A 1423) c) c (if thereP f c day then nI c else -1) from rfl] at ih
    have st : ∀ x : Int32, x = (if thereP f c day then nI c else -1) → EX g mbOf (Ev g (d + 14)) (infoOf 147) k_X10_groupPersons (gpQ w F A f np nm v nc (jA f nt nc day need (lst0 f day (A 1423) nc) nc)) noX w.1 (cW w F (udA A 1423 (lst0 f day (A 1423) c)) L) 0 0 21 [some (.ref 0), some (.int day), some (.int (nI c)), l3, l4] [.int x, .int (nI c), .ref 1423] := by
      intro x hx
      rw [← hx] at ih
      refine x_iasC rfl hn sp_1423 (by omega) ?_
      refine x_inc1 (lo' := [_, _, _, _, _]) rfl rfl rfl ?_
      refine x_go rfl ?_
      rw [udA_udA, udA_t]
      exact ih _ _
    refine x_call2 (c_isThereOn hR1 hI c0 hn) rfl (Nat.le_of_ble_eq_true rfl) (Or.inl (by first | exact hn | assumption)) (rcv_at (cw_fs (by with_reducible exact ca_0 (by first | assumption | exact caA (by omega) | exact caB (by assumption) (by omega))) hn) (by decide) (by decide)) (Nat.le_of_ble_eq_true rfl) (Nat.le_of_ble_eq_true rfl) (fun E w9 hq => hq.elim) ?_
    rintro v9 w9 ⟨rfl, rfl⟩
    refine x_ifeqB rfl (fun c1 => ?_) (fun c1 => ?_)
    · refine x_c rfl ?_
      exact st _ (if_neg c1).symm
    refine x_il rfl rfl ?_
    refine x_go rfl ?_
    exact st _ (if_pos c1).symm
  refine ev_X10_groupPersons ?_ (Nat.le_of_ble_eq_true rfl)
  refine x_lo (lo' := [some (.ref 0), some (.int day), none, none, none]) rfl ?_
  refine x_c rfl ?_
  refine x_is (lo' := [_, _, _, _, _]) rfl (Nat.le_of_ble_eq_true rfl) rfl ?_
  have := loop1 0 (Nat.zero_le _) none none
  rw [show lst0 f day (A 1423) 0 = A 1423 from rfl, udA_self] at this
  exact this
theorem c_hasSecondName {c : Nat} (hR : RS F A f 6 np nm nc nt ns nh) (h16 : nc ≤ 16) (hc : c < nc) (hL : LdI (A 1423) nc) (hn : w.1 = N0) : Ev g (d + 1) 146 [.ref 0, .int (nI c)] (cW w F A L) (RetQ (bI (anyF (twoB f (A 1423) c) (c + 1) (nc - (c + 1)))) (cW w F A L)) noX := by
  have hcnt : F 6 6 = nI nc := hR.1.2.2.2.2.2.2.1
  have any_t : ∀ k a x, a ≤ x → x < a + k → twoB f (A 1423) c x = true → anyF (twoB f (A 1423) c) a k = true := by
    intro k
    induction k with
    | zero => intro a x h1 h2; omega
    | succ k ih =>
      intro a x h1 h2 h
      show (anyF (twoB f (A 1423) c) a k || twoB f (A 1423) c (a + k)) = true
      by_cases e : x = a + k
      · rw [← e, h, Bool.or_true]
      · rw [ih a x h1 (by omega) h, Bool.true_or]
  have any_f : ∀ k a, (∀ x, a ≤ x → x < a + k → twoB f (A 1423) c x = false) → anyF (twoB f (A 1423) c) a k = false := by
    intro k
    induction k with
    | zero => intro a h; rfl
    | succ k ih =>
      intro a h
      show (anyF (twoB f (A 1423) c) a k || twoB f (A 1423) c (a + k)) = false
      rw [ih a (fun x h1 h2 => h x h1 (by omega)), h (a + k) (by omega) (by omega)]
      rfl
  have loop : ∀ x, x ≤ nc → (∀ y, y < x → twoB f (A 1423) c y = false) → EX g mbOf (Ev g (d)) (infoOf 146) k_X10_hasSecondName (RetQ (bI (anyF (twoB f (A 1423) c) (c + 1) (nc - (c + 1)))) (cW w F A L)) noX w.1 (cW w F A L) 0 0 2 [some (.ref 0), some (.int (nI c)), some (.int (nI x))] [] := by
    refine downN nc fun x hx ih => ?_
    intro hy
    refine x_il rfl rfl ?_
    refine x_al rfl rfl ?_
    refine x_getC rfl hn (by with_reducible exact sp_0) (by exact rfl) ?_
    refine x_getC rfl hn (by with_reducible exact (by first | exact sp_6 | exact st_0 (by assumption))) (by exact rfl) ?_
    rw [hcnt]
    refine x_icgeN rfl (by omega) (fun c0 => ?_) (fun c0 => ?_)
    · refine x_c rfl ?_
      refine x_retz rfl (Nat.le_of_ble_eq_true rfl) (Nat.le_of_ble_eq_true rfl) rfl (by first | rfl | assumption) ?_
      obtain rfl : x = nc := by omega
      exact ⟨by rw [any_f _ _ (fun y h1 h2 => hy y (by omega))]; rfl, rfl⟩
    refine x_al rfl rfl ?_
    refine x_getC rfl hn (by with_reducible exact sp_0) (by exact rfl) ?_
    refine x_il rfl rfl ?_
    refine x_iaC rfl hn (by with_reducible exact sp_1423) (by omega) ?_
    refine x_il rfl rfl ?_
    have next : twoB f (A 1423) c x = false → EX g mbOf (Ev g (d)) (infoOf 146) k_X10_hasSecondName (RetQ (bI (anyF (twoB f (A 1423) c) (c + 1) (nc - (c + 1)))) (cW w F A L)) noX w.1 (cW w F A L) 0 0 28 [some (.ref 0), some (.int (nI c)), some (.int (nI x))] [] := by
      intro hx2
      refine x_inc1 (lo' := [_, _, _]) rfl rfl rfl ?_
      refine x_go rfl ?_
      refine ih c0 fun y hy2 => ?_
      by_cases e : y = x
      · subst e; exact hx2
      · exact hy y (by omega)
    refine x_icne rfl (fun c1 => ?_) (fun c1 => ?_)
    · skip
      exact next (by unfold twoB; rw [decide_eq_false_iff_not]; exact fun h => c1 h.1)
    refine x_al rfl rfl ?_
    refine x_getC rfl hn (by with_reducible exact sp_0) (by exact rfl) ?_
    refine x_getC rfl hn (by with_reducible exact (by first | exact sp_6 | exact st_0 (by assumption))) (by exact rfl) ?_
    refine x_il rfl rfl ?_
    refine x_aaC rfl hn (by with_reducible exact sp_9) (by decide) (by omega) ?_
    refine x_getC rfl hn (by with_reducible exact ca_0 (by first | assumption | exact caA (by omega) | exact caB (by assumption) (by omega))) (by exact rfl) ?_
    refine x_al rfl rfl ?_
    refine x_getC rfl hn (by with_reducible exact sp_0) (by exact rfl) ?_
    refine x_getC rfl hn (by with_reducible exact (by first | exact sp_6 | exact st_0 (by assumption))) (by exact rfl) ?_
    refine x_il rfl rfl ?_
    refine x_aaC rfl hn (by with_reducible exact sp_9) (by decide) (by omega) ?_
    refine x_getC rfl hn (by with_reducible exact ca_0 (by first | assumption | exact caA (by omega) | exact caB (by assumption) (by omega))) (by exact rfl) ?_
    rw [show F (561 + 5 * x) 0 = f (6607 + 26 * x + 0) from (hR.ca c0).1.1, show F (561 + 5 * c) 0 = f (6607 + 26 * c + 0) from (hR.ca hc).1.1]
    refine x_iceq rfl (fun c2 => ?_) (fun c2 => ?_)
    · skip
      exact next (by unfold twoB; rw [decide_eq_false_iff_not]; exact fun h => h.2 c2)
    refine x_c rfl ?_
    refine x_retz rfl (Nat.le_of_ble_eq_true rfl) (Nat.le_of_ble_eq_true rfl) rfl (by first | rfl | assumption) ?_
    have htw : twoB f (A 1423) c x = true := by unfold twoB; rw [decide_eq_true_iff]; exact ⟨c1, c2⟩
    have hcx : c < x := by
      rcases hL x c0 with e | ⟨i, hi, e⟩
      · rw [e] at c1; exact absurd c1.symm (nI_m1 (by omega))
      · have := (nI_eq (by omega) (by omega)).mp (e.symm.trans c1)
        by_cases h9 : x = c
        · subst h9; exact absurd rfl c2
        · omega
    exact ⟨by rw [any_t _ _ x (by omega) (by omega) htw]; rfl, rfl⟩
  refine ev_X10_hasSecondName ?_ (Nat.le_of_ble_eq_true rfl)
  refine x_lo (lo' := [some (.ref 0), some (.int (nI c)), none]) rfl ?_
  refine x_c rfl ?_
  refine x_is (lo' := [_, _, _]) rfl (Nat.le_of_ble_eq_true rfl) rfl ?_
  exact loop 0 (Nat.zero_le _) (fun y hy => absurd hy (by omega))
end CALLS
