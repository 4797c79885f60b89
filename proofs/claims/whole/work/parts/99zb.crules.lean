/-! the class reads a text of rules; cw_ -/
def FrT (F A F' A' : Nat → Nat → Int32) : Prop := (∀ q, q ≠ 1 → q ≠ 1414 → F' q = F q) ∧ F' 1 1 = F 1 1 ∧ F' 1414 0 = F 1414 0 ∧ ∀ q, q ≠ 3 → q ≠ 4 → q ≠ 5 → (q < 1415 ∨ 1419 < q) → A' q = A q
def rwC (A : Nat → Nat → Int32) (rows : List RW4) : Prop := ∀ i r, rows[i]? = some r → A 1415 i = nI r.1 ∧ A 1416 i = r.2.1 ∧ A 1417 i = nI r.2.2.1 ∧ A 1418 i = nI r.2.2.2
def TQC (w : aW) (F A : Nat → Nat → Int32) (L : Nat → Int64) (R : TR) : Option Value → aW → Prop := fun v w' => v = some (.int (bI R.1)) ∧ ∃ F' A', w' = cW w F' A' L ∧ FrT F A F' A' ∧ (R.1 = false → F' 1 2 = nI R.2.1) ∧ (R.1 = true → F' 1 2 = -1 ∧ F' 1414 1 = nI R.2.2.1.length ∧ R.2.2.1.length ≤ 12 ∧ rwC A' R.2.2.1 ∧ CoR (A' 1419) 0 R.2.2.2)
theorem rwC.nil {A : Nat → Nat → Int32} : rwC A [] := fun i r h => by simp at h
theorem rwC.app {A A' : Nat → Nat → Int32} {rows : List RW4} {a c e : Nat} {x : Int32} (h : rwC A rows) (h1 : A' 1415 = upd (A 1415) rows.length (nI a)) (h2 : A' 1416 = upd (A 1416) rows.length x) (h3 : A' 1417 = upd (A 1417) rows.length (nI c)) (h4 : A' 1418 = upd (A 1418) rows.length (nI e)) : rwC A' (rows ++ [(a, x, c, e)]) := fun i r hr => by
  rw [h1, h2, h3, h4]
  rcases Nat.lt_or_ge i rows.length with l | l
  · rw [List.getElem?_append_left l] at hr
    rw [upd_ne (by omega), upd_ne (by omega), upd_ne (by omega), upd_ne (by omega)]
    exact h i r hr
  · rw [List.getElem?_append_right l] at hr
    have e0 : i - rows.length = 0 := by
      rcases Nat.eq_zero_or_pos (i - rows.length) with h5 | h5
      · exact h5
      · obtain ⟨m, hm⟩ : ∃ m, i - rows.length = m + 1 := ⟨i - rows.length - 1, by omega⟩
        rw [hm] at hr
        simp at hr
    rw [e0] at hr
    have e1 : (a, x, c, e) = r := by simpa using hr
    subst e1
    obtain rfl : i = rows.length := by omega
    rw [upd_at, upd_at, upd_at, upd_at]
    exact ⟨rfl, rfl, rfl, rfl⟩
theorem FrU.t {F A F' A' F2 A2 : Nat → Nat → Int32} (h : FrT F A F' A') (h2 : FrU F' A' F2 A2) : FrT F A F2 A2 := ⟨fun q a c => (h2.1 q a c).trans (h.1 q a c), (h2.2.1 1 (by decide) (by decide)).trans h.2.1, h2.2.2.1.trans h.2.2.1, fun q a c e l => (h2.2.2.2 q l).trans (h.2.2.2 q a c e l)⟩
section READ
variable {g : aG} {d en : Nat} {t : Nat → Int32} {b : Nat → Nat} {w : aW} {F A : Nat → Nat → Int32} {L : Nat → Int64}
theorem PP_le {c : Nat → Int32} (hB : TpR t c en b) : ∀ i n, (∀ k, k < n → wS t en (PP t b en k) < en) → i ≤ n → i ≤ PP t b en i ∧ PP t b en i ≤ en := by
  intro i
  induction i with
  | zero => intro n _ _; exact ⟨Nat.le_refl _, Nat.zero_le _⟩
  | succ i ih =>
    intro n h hi
    obtain ⟨a1, a2⟩ := ih n h (by omega)
    obtain ⟨x1, x2⟩ := nx_ok hB (h i (by omega))
    have e3 := wS_ge (t := t) (en := en) (p := PP t b en i)
    exact ⟨by show i + 1 ≤ nxF t b en (wS t en (PP t b en i)); omega, x2⟩
theorem TkS.a {F A F1 A1 : Nat → Nat → Int32} {n : Nat} {c : Nat → Int32} (hB : TpR t c en b) (hen : en ≤ 400) (h : TkS F A F1 A1 t b en n) (he : wS t en (PP t b en n) = en) : TkA F1 A1 t b en n ∧ n ≤ 400 := by
  have hle := (PP_le hB n n (fun k hk => (h.2.2.2 k hk).1) (Nat.le_refl _))
  exact ⟨⟨h.2.1.1, h.2.1.2.2.1, he, by omega, h.2.2.2⟩, by omega⟩
theorem c_readRules (hT : HTx g) (hB : TpR t (A 2) en b) (hl : F 1 1 = nI en) (hen : en ≤ 400) (hn : w.1 = N0) : Ev g (d + 39) 43 [.ref 1414, .ref 1] (cW w F A L) (TQC w F A L (pText t en 0)) noX := by
  generalize hP : pText t en 0 = P
  unfold pText at hP
  refine ev_X5_readRules ?_ (Nat.le_of_ble_eq_true rfl)
  refine x_lo (lo' := [some (.ref 1414), some (.ref 1), none]) rfl ?_
  refine x_al rfl rfl ?_
  refine x_c rfl ?_
  refine x_putC rfl hn (by with_reducible exact te_0 (by first | assumption | exact teA (by omega) | exact teN | exact teD | exact te_b (by assumption) | exact teB (by assumption) (by omega))) (by exact rfl) (by first | rfl | exact nr_z (by assumption)) (by first | rfl | exact fi_z _) ?_
  refine x_al rfl rfl ?_
  refine x_c rfl ?_
  refine x_putC rfl hn (by with_reducible exact te_0 (by first | assumption | exact teA (by omega) | exact teN | exact teD | exact te_b (by assumption) | exact teB (by assumption) (by omega))) (by exact rfl) (by first | rfl | exact nr_z (by assumption)) (by first | rfl | exact fi_z _) ?_
  refine x_al rfl rfl ?_
  have hB0 : TpR t (A 2) en b := hB
  refine x_call1 (c_scan hT hB0 (show udA (udA F 1414 (upd (F 1414) 1 0)) 1414 (upd (udA F 1414 (upd (F 1414) 1 0) 1414) 2 0) 1 1 = nI en by rw [udA_ne (by decide), udA_ne (by decide)]; exact hl) hen hn) rfl (Nat.le_of_ble_eq_true rfl) (Or.inl (by first | exact hn | assumption)) (rcv_at (cw_fs (by with_reducible exact sp_1) hn) (by decide) (by decide)) (Nat.le_of_ble_eq_true rfl) (Nat.le_of_ble_eq_true rfl) (fun E w9 hq => hq.elim) ?_
  rintro v9 w9 ⟨rfl, n, F1, A1, rfl, hS, he⟩
  refine x_al rfl rfl ?_
  obtain ⟨hTk, hn4⟩ := hS.a hB hen he
  have s1 : ∀ q, q ≠ 1 → q ≠ 1414 → F1 q = F q := fun q h1 h2 => by rw [hS.1 q h1, udA_ne h2, udA_ne h2]
  have s2 : F1 1414 1 = nI 0 := by
    rw [hS.1 1414 (by decide), udA_t, udA_t, upd_ne (by decide), upd_at]
    rfl
  have s3 : F1 1414 2 = nI 0 := by
    rw [hS.1 1414 (by decide), udA_t, upd_at]
    rfl
  have s4 : F1 1414 0 = F 1414 0 := by
    rw [hS.1 1414 (by decide), udA_t, udA_t, upd_ne (by decide), upd_ne (by decide)]
  have hFr1 : FrT F A F1 A1 := ⟨s1, hS.2.1.1.trans hl.symm, s4, fun q a c e l => hS.2.2.1 q a c e⟩
  have hp0 : wS t en (PP t b en 0) = wS t en 0 := rfl
  refine x_call1 (c_token hTk hS.2.1.2.2.2 (Nat.zero_le _) hp0 hn4 hn) rfl (Nat.le_of_ble_eq_true rfl) (Or.inl (by first | exact hn | assumption)) (rcv_at (cw_fs (by with_reducible exact sp_1) hn) (by decide) (by decide)) (Nat.le_of_ble_eq_true rfl) (Nat.le_of_ble_eq_true rfl) (fun E w9 hq => hq.elim) ?_
  rintro v9 w9 ⟨rfl, rfl⟩
  refine x_c rfl ?_
  have ht0 := tok_end (p := 0) hB (Nat.zero_le _)
  by_cases hw : wS t en 0 = en
  · rw [if_pos hw] at hP
    subst hP
    refine x_icne rfl (fun e9 => absurd (ht0.mpr hw) e9) (fun e9 => ?_)
    refine x_c rfl ?_
    refine x_retz rfl (Nat.le_of_ble_eq_true rfl) (Nat.le_of_ble_eq_true rfl) rfl (by first | rfl | assumption | exact bI_01 _) ?_
    exact ⟨rfl, F1, A1, rfl, hFr1, fun h => absurd h (by show ¬ true = false; decide), fun _ => ⟨hS.2.1.2.1, s2, Nat.zero_le _, rwC.nil, CoR.nil⟩⟩
  rw [if_neg hw] at hP
  refine x_icne rfl (fun e9 => ?_) (fun e9 => absurd (ht0.mp e9) hw)
  refine x_c rfl ?_
  refine x_is (lo' := [_, _, _]) rfl (Nat.le_of_ble_eq_true rfl) rfl ?_
  have fin : ∀ (F2 A2 : Nat → Nat → Int32) (s : Nat), P = (false, s, [], []) → FrT F A F2 A2 → F2 1 2 = nI s → TQC w F A L P (some (.int 0)) (cW w F2 A2 L) := fun F2 A2 s hPP h1 h2 => by
    subst hPP
    exact ⟨rfl, F2, A2, rfl, h1, fun _ => h2, fun h => absurd h (by show ¬ false = true; decide)⟩
  have loop : ∀ k m p1 rows steps (F2 A2 : Nat → Nat → Int32) (j2 : Nat), m + k = 13 → m ≤ 12 → rows.length = m → p1 ≤ en → steps.length ≤ p1 → FrT F A F2 A2 → F2 1 2 = -1 → TkA F2 A2 t b en n → F2 1 7 = nI j2 → j2 ≤ n → wS t en (PP t b en j2) = wS t en p1 → F2 1414 1 = nI m → F2 1414 2 = nI steps.length → rwC A2 rows → CoR (A2 1419) 0 steps → pRules t en k m p1 rows steps = P → EX g mbOf (Ev g (d + 38)) (infoOf 43) k_X5_readRules (TQC w F A L P) noX w.1 (cW w F2 A2 L) 0 0 16 [some (.ref 1414), some (.ref 1), some (.int (nI m))] [] := by
    intro k
    induction k with
    | zero => intro m p1 rows steps F2 A2 j2 h1 h2; omega
    | succ k ih =>
      intro m p1 rows steps F2 A2 j2 hmk hm12 hrl hp1 hsl hFr f2 hT2 g7 gj gp r2 u2 hrow hco hR
      unfold pRules at hR
      refine x_il rfl rfl ?_
      refine x_c rfl ?_
      refine x_icgeN (y := 12) rfl (by omega) (fun c0 => ?_) (fun c0 => ?_)
      · refine x_al rfl rfl ?_
        have em : m = 12 := by omega
        refine x_call1 (c_fail hT2 g7 gj gp hn4 hn) rfl (Nat.le_of_ble_eq_true rfl) (Or.inl (by first | exact hn | assumption)) (rcv_at (cw_fs (by with_reducible exact sp_1) hn) (by decide) (by decide)) (Nat.le_of_ble_eq_true rfl) (Nat.le_of_ble_eq_true rfl) (fun E w9 hq => hq.elim) ?_
        rintro v9 w9 ⟨rfl, rfl⟩
        refine x_retz rfl (Nat.le_of_ble_eq_true rfl) (Nat.le_of_ble_eq_true rfl) rfl (by first | rfl | assumption | exact bI_01 _) ?_
        have hr12 : pRule t en m p1 = (false, 0, wS t en p1, []) := by
          unfold pRule
          rw [if_pos em]
        rw [hr12, if_neg Bool.false_ne_true] at hR
        exact fin _ _ _ hR.symm (FrU.t hFr (FrP.f1 (by omega)).u) (by rw [udA_t, upd_at])
      refine x_al rfl rfl ?_
      refine x_al rfl rfl ?_
      refine x_call2 (c_readRule hB hen hn4 hT2 g7 gj gp hp1 r2 c0 u2 hsl hn) rfl (Nat.le_of_ble_eq_true rfl) (Or.inl (by first | exact hn | assumption)) (rcv_at (cw_fs (by with_reducible exact te_0 (by first | assumption | exact teA (by omega) | exact teN | exact teD | exact te_b (by assumption) | exact teB (by assumption) (by omega))) hn) (by decide) (by decide)) (Nat.le_of_ble_eq_true rfl) (Nat.le_of_ble_eq_true rfl) (fun E w9 hq => hq.elim) ?_
      rintro v9 w9 ⟨rfl, F3, A3, rfl, a1, a2, a3⟩
      cases hok : (pRule t en m p1).1 with
      | false =>
        rw [if_neg (by rw [hok]; decide)] at hR
        refine x_ifne rfl (fun e9 => absurd rfl e9) (fun e9 => ?_)
        refine x_c rfl ?_
        refine x_retz rfl (Nat.le_of_ble_eq_true rfl) (Nat.le_of_ble_eq_true rfl) rfl (by first | rfl | assumption | exact bI_01 _) ?_
        exact fin _ _ _ hR.symm (FrU.t hFr a1) (a2 hok)
      | true =>
        rw [if_pos hok] at hR
        obtain ⟨f3, ⟨j3, h7, hj, hp⟩, r3, u3, ⟨s, hs, t1, t2, t3, t4⟩, old3, co3⟩ := a3 hok
        have hb := pRule_b hp1 hok
        rw [hs] at hR
        dsimp only [Option.getD_some] at hR
        generalize (pRule t en m p1).2.2.2 = Ls at *
        generalize (pRule t en m p1).2.1 = q at *
        have hT3 := a1.tk hT2
        have hFr3 := FrU.t hFr a1
        have hrow3 : rwC A3 (rows ++ [(s, nrW t en p1 s, steps.length, steps.length + Ls.length)]) := by
          rw [← hrl] at t1 t2 t3 t4
          exact hrow.app t1 t2 t3 t4
        have hco3 : CoR (A3 1419) 0 (steps ++ Ls) := CoR.app (CoR.congr hco (Nat.le_refl _) fun i hi => old3 i (by omega)) (by rw [Nat.zero_add]; exact co3)
        have hte := tok_end hB hb.2.1
        refine x_ifne rfl (fun e9 => ?_) (fun e9 => absurd e9 (show ¬ (1 : Int32) = 0 by decide))
        refine x_al rfl rfl ?_
        refine x_call1 (c_token hT3 h7 hj hp hn4 hn) rfl (Nat.le_of_ble_eq_true rfl) (Or.inl (by first | exact hn | assumption)) (rcv_at (cw_fs (by with_reducible exact sp_1) hn) (by decide) (by decide)) (Nat.le_of_ble_eq_true rfl) (Nat.le_of_ble_eq_true rfl) (fun E w9 hq => hq.elim) ?_
        rintro v9 w9 ⟨rfl, rfl⟩
        refine x_c rfl ?_
        by_cases hwe : wS t en q = en
        · rw [if_pos hwe] at hR
          subst hR
          refine x_icne rfl (fun e9 => absurd (hte.mpr hwe) e9) (fun e9 => ?_)
          refine x_c rfl ?_
          refine x_retz rfl (Nat.le_of_ble_eq_true rfl) (Nat.le_of_ble_eq_true rfl) rfl (by first | rfl | assumption | exact bI_01 _) ?_
          refine ⟨rfl, F3, A3, rfl, hFr3, fun h => absurd h (by show ¬ true = false; decide), fun _ => ⟨f3.trans f2, ?_, ?_, hrow3, hco3⟩⟩
          · rw [r3]
            refine congrArg nI ?_
            show m + 1 = (rows ++ [(s, nrW t en p1 s, steps.length, steps.length + Ls.length)]).length
            rw [List.length_append, hrl]
            rfl
          · show (rows ++ [(s, nrW t en p1 s, steps.length, steps.length + Ls.length)]).length ≤ 12
            rw [List.length_append, hrl]
            show m + 1 ≤ 12
            omega
        rw [if_neg hwe] at hR
        have hlt : wS t en q < en := by have := wS_le (t := t) hb.2.1; omega
        have hg : tokV t b en (wS t en q) = 159 ↔ sgB t en q 59 = true := tok_sign (k := 59) hB hb.2.1 (by decide) (by decide) (by decide)
        refine x_icne rfl (fun e9 => ?_) (fun e9 => absurd (hte.mp e9) hwe)
        refine x_al rfl rfl ?_
        refine x_c rfl ?_
        refine x_call2 (c_takeT hT3 h7 hj hp hn4 hn) rfl (Nat.le_of_ble_eq_true rfl) (Or.inl (by first | exact hn | assumption)) (rcv_at (cw_fs (by with_reducible exact sp_1) hn) (by decide) (by decide)) (Nat.le_of_ble_eq_true rfl) (Nat.le_of_ble_eq_true rfl) (fun E w9 hq => hq.elim) ?_
        rintro v9 w9 hh
        rcases hh with ⟨k1, rfl, rfl⟩ | ⟨k1, rfl, rfl⟩
        · have s1 := hg.mp k1
          obtain ⟨x1, x2⟩ := pos_sign (k := 59) hB hT3 hj hp (by decide) (by decide) (by decide) s1
          rw [if_pos (of_decide_eq_true s1).2] at hR
          have hFr4 : FrP F3 A3 (udA F3 1 (upd (F3 1) 7 (nI (j3 + 1)))) A3 := FrP.f1 (by omega)
          have e3 := wS_ge (t := t) (en := en) (p := q)
          refine x_ifne rfl (fun e9 => ?_) (fun e9 => absurd e9 (show ¬ (1 : Int32) = 0 by decide))
          refine x_inc1 (lo' := [_, _, _]) rfl rfl rfl ?_
          refine x_go rfl ?_
          refine ih (m + 1) (wS t en q + 1) _ _ _ A3 (j3 + 1) (by omega) (by omega) ?_ (by omega) ?_ (FrU.t hFr3 hFr4.u) ?_ (hFr4.tk hT3) (by rw [udA_t, upd_at]) x1 x2 ?_ ?_ hrow3 hco3 hR
          · rw [List.length_append, hrl]
            rfl
          · rw [List.length_append]
            omega
          · rw [udA_t, upd_ne (by decide)]; exact f3.trans f2
          · rw [udA_ne (by decide)]; exact r3
          · rw [udA_ne (by decide), List.length_append]; exact u3
        · rw [if_neg (fun h => k1 (hg.mpr (decide_eq_true ⟨hlt, h⟩)))] at hR
          refine x_ifne rfl (fun e9 => absurd rfl e9) (fun e9 => ?_)
          refine x_al rfl rfl ?_
          refine x_call1 (c_fail hT3 h7 hj hp hn4 hn) rfl (Nat.le_of_ble_eq_true rfl) (Or.inl (by first | exact hn | assumption)) (rcv_at (cw_fs (by with_reducible exact sp_1) hn) (by decide) (by decide)) (Nat.le_of_ble_eq_true rfl) (Nat.le_of_ble_eq_true rfl) (fun E w9 hq => hq.elim) ?_
          rintro v9 w9 ⟨rfl, rfl⟩
          refine x_retz rfl (Nat.le_of_ble_eq_true rfl) (Nat.le_of_ble_eq_true rfl) rfl (by first | rfl | assumption | exact bI_01 _) ?_
          exact fin _ _ _ hR.symm (FrU.t hFr3 (FrP.f1 (by omega)).u) (by rw [udA_t, upd_at])
  exact loop 13 0 (wS t en 0) [] [] F1 A1 0 (by decide) (by decide) rfl (wS_le (Nat.zero_le _)) (Nat.zero_le _) hFr1 hS.2.1.2.1 hTk hS.2.1.2.2.2 (Nat.zero_le _) (runs_idem (Nat.zero_le _)).symm s2 s3 rwC.nil CoR.nil hP
end READ
