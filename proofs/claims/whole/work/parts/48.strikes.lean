/-! strikes and the days -/
def keepsB (f : Nat → Int32) : Option Nat → Bool
  | none => false
  | some t => decide (¬ cn (fun k => f (rl t k) == 4) (rulC f t) = 0)
abbrev skP (f : Nat → Int32) (n : Nat) (o : Option Nat) (kp : Bool) (c : Nat) : Prop := f (6607 + 26 * c + 2) < 0 ∧ (0 ≤ firstF f o 5 (tgC f c (f 0)) (fcC f c (f 0)) ∨ (kp = true ∧ keptF f n c (f 0) < f 0 - f (6607 + 26 * c + 1)))
def skF (n : Nat) (o : Option Nat) (kp : Bool) : (Nat → Int32) → Nat → Nat → Int32 := acc (fun c f => if skP f n o kp c then upd f (6607 + 26 * c + 2) (f 0) else f)
/-- the day's strikes -/
def strikesF (f : Nat → Int32) (n nc : Nat) : Nat → Int32 := skF n (bestT f (f 0) n) (keepsB f (bestT f (f 0) n)) f nc
def agS (f f' : Nat → Int32) : Prop := ∀ i, (i < 6607 ∨ 7023 ≤ i ∨ (i - 6607) % 26 ≠ 2) → f' i = f i
theorem agS_t {f f' f'' : Nat → Int32} (h : agS f f') (h' : agS f' f'') : agS f f'' := fun i hi => (h' i hi).trans (h i hi)
theorem agS_u {f : Nat → Int32} {c : Nat} {v : Int32} (hc : c < 16) : agS f (upd f (6607 + 26 * c + 2) v) := fun i hi => pk_un (by omega)
theorem skF_ag {n : Nat} {o : Option Nat} {kp : Bool} {f : Nat → Int32} : ∀ c, c ≤ 16 → agS f (skF n o kp f c) := by
  intro c
  induction c with
  | zero => intro _ i _; rfl
  | succ c ih =>
    intro hc
    refine agS_t (ih (by omega)) ?_
    show agS (skF n o kp f c) (if _ then _ else _)
    split
    · exact agS_u (by omega)
    · exact fun _ _ => rfl
section STRIKES
variable {g : aG} {d : Nat} {w : aW} {m f : Nat → Int32} {A : Nat → Nat → Int32} {B : Nat → Nat → Int64}
theorem n_strikes {n nc : Nat} (hT : WT f n) (hF1 : WF1 f nc) (hn : w.1 = N0) : Ev g (d + 5) 287 [.ref 1424] (rW w m f A B) (fun v w' => v = none ∧ ∃ A', w' = rW w m (strikesF f n nc) A' B ∧ keepB A A') noX := by
  have hnc := hF1.2.1
  have hbest := hT.best (f 0)
  have hlt := bestT_lt (f := f) (day := f 0) n
  refine ev_X11_strikes ?_ (Nat.le_of_ble_eq_true rfl)
  refine x_lo (lo' := [some (.ref 1424), none, none, none, none]) rfl ?_
  refine x_al rfl rfl ?_
  refine x_al rfl rfl ?_
  refine x_call1 (n_today hn) rfl (Nat.le_of_ble_eq_true rfl) (Or.inl (by first | exact hn | assumption)) (rcv_at (by first | exact rw_md hn | exact rw_w hn | exact rw_A hn (by exact rfl) | exact rw_B2 hn | exact rw_B3 hn | assumption) (by decide) (by decide)) (Nat.le_of_ble_eq_true rfl) (Nat.le_of_ble_eq_true rfl) (fun E w9 hq => hq.elim) ?_
  rintro v9 w9 ⟨rfl, rfl⟩
  refine x_call2 (n_textOf hT.1 hT.2.1 hn) rfl (Nat.le_of_ble_eq_true rfl) (Or.inl (by first | exact hn | assumption)) (rcv_at (by first | exact rw_md hn | exact rw_w hn | exact rw_A hn (by exact rfl) | exact rw_B2 hn | exact rw_B3 hn | assumption) (by decide) (by decide)) (Nat.le_of_ble_eq_true rfl) (Nat.le_of_ble_eq_true rfl) (fun E w9 hq => hq.elim) ?_
  rintro v9 w9 ⟨rfl, rfl⟩
  refine x_is (lo' := [_, _, _, _, _]) rfl (Nat.le_of_ble_eq_true rfl) rfl ?_
  refine x_c rfl ?_
  refine x_is (lo' := [_, _, _, _, _]) rfl (Nat.le_of_ble_eq_true rfl) rfl ?_
  refine x_c rfl ?_
  refine x_is (lo' := [_, _, _, _, _]) rfl (Nat.le_of_ble_eq_true rfl) rfl ?_
  unfold strikesF
  generalize hP : skF n (bestT f (f 0) n) (keepsB f (bestT f (f 0) n)) f nc = P
  generalize bestT f (f 0) n = o at *
  have ho10 : ∀ t, o = some t → t < 10 := fun t h => by subst h; exact hbest.1
  have loop2 : ∀ c, c ≤ nc → ∀ A' l4, keepB A A' → EX g mbOf (Ev g (d + 4)) (infoOf 287) k_X11_strikes (fun v w' => v = none ∧ ∃ A', w' = rW w m P A' B ∧ keepB A A') noX w.1 (rW w m (skF n o (keepsB f o) f c) A' B) 0 0 32 [some (.ref 1424), some (.int (oI o)), some (.int (bI (keepsB f o))), some (.int (nI c)), l4] [] := by
    refine downN nc fun c hc ih => ?_
    intro A' l4 hA
    have ag := skF_ag (n := n) (o := o) (kp := keepsB f o) (f := f) c (by omega)
    have hst : skF n o (keepsB f o) f (c + 1) = if skP (skF n o (keepsB f o) f c) n o (keepsB f o) c then upd (skF n o (keepsB f o) f c) (6607 + 26 * c + 2) (skF n o (keepsB f o) f c 0) else skF n o (keepsB f o) f c := rfl
    rw [hst] at ih
    refine x_il rfl rfl ?_
    refine x_al rfl rfl ?_
    refine x_get rfl (rw_md hn) (by exact rfl) ?_
    refine x_c rfl ?_
    refine x_iaN (j := 6606) rfl (by first | exact rw_md hn | exact rw_w hn | exact rw_A hn (by exact rfl) | exact rw_B2 hn | exact rw_B3 hn | assumption) (by omega) ?_
    rw [(ag 6606 (by omega)).trans hF1.1]
    refine x_icgeN rfl (by omega) (fun c0 => ?_) (fun c0 => ?_)
    · refine x_retv rfl (Nat.le_of_ble_eq_true rfl) (Nat.le_of_ble_eq_true rfl) rfl ?_
      obtain rfl : c = nc := by omega
      rw [hP]
      exact ⟨rfl, _, rfl, hA⟩
    refine x_al rfl rfl ?_
    refine x_il rfl rfl ?_
    have ih := ih c0
    generalize hfx : skF n o (keepsB f o) f c = fx at *
    have hTx : WT fx n := WT_c (fun i hi => ag i (by omega)) hT
    have hox : okO fx o := by
      cases o with
      | none => trivial
      | some t => exact ⟨hbest.1, hTx.2.2 t (hlt t rfl)⟩
    have skip : ∀ A' l4, keepB A A' → ¬ skP fx n o (keepsB f o) c → EX g mbOf (Ev g (d + 4)) (infoOf 287) k_X11_strikes (fun v w' => v = none ∧ ∃ A', w' = rW w m P A' B ∧ keepB A A') noX w.1 (rW w m fx A' B) 0 0 73 [some (.ref 1424), some (.int (oI o)), some (.int (bI (keepsB f o))), some (.int (nI c)), l4] [] := by
      intro A' l4 h1 h2
      rw [if_neg h2] at ih
      refine x_inc1 (lo' := [_, _, _, _, _]) rfl rfl rfl ?_
      refine x_go rfl ?_
      exact ih _ _ h1
    have put : ∀ A' l4, keepB A A' → skP fx n o (keepsB f o) c → EX g mbOf (Ev g (d + 4)) (infoOf 287) k_X11_strikes (fun v w' => v = none ∧ ∃ A', w' = rW w m P A' B ∧ keepB A A') noX w.1 (rW w m fx A' B) 0 0 65 [some (.ref 1424), some (.int (oI o)), some (.int (bI (keepsB f o))), some (.int (nI c)), l4] [] := by
      intro A' l4 h1 h2
      rw [if_pos h2] at ih
      refine x_al rfl rfl ?_
      refine x_get rfl (rw_md hn) (by exact rfl) ?_
      refine x_il rfl rfl ?_
      refine x_c rfl ?_
      refine x_call2 (m_cardAt (k := 2)) rfl (Nat.le_of_ble_eq_true rfl) (Or.inl (by first | exact hn | assumption)) trivial (Nat.le_of_ble_eq_true rfl) (Nat.le_of_ble_eq_true rfl) (fun E w9 hq => hq.elim) ?_
      rintro v9 w9 ⟨rfl, rfl⟩
      refine x_al rfl rfl ?_
      refine x_call1 (n_today hn) rfl (Nat.le_of_ble_eq_true rfl) (Or.inl (by first | exact hn | assumption)) (rcv_at (by first | exact rw_md hn | exact rw_w hn | exact rw_A hn (by exact rfl) | exact rw_B2 hn | exact rw_B3 hn | assumption) (by decide) (by decide)) (Nat.le_of_ble_eq_true rfl) (Nat.le_of_ble_eq_true rfl) (fun E w9 hq => hq.elim) ?_
      rintro v9 w9 ⟨rfl, rfl⟩
      first | refine x_iasW rfl hn (by omega) ?_ | refine x_iasA rfl hn (by exact rfl) (by omega) ?_
      refine x_inc1 (lo' := [_, _, _, _, _]) rfl rfl rfl ?_
      refine x_go rfl ?_
      exact ih _ _ h1
    refine x_call2 (n_isFiled (by omega) hn) rfl (Nat.le_of_ble_eq_true rfl) (Or.inl (by first | exact hn | assumption)) (rcv_at (by first | exact rw_md hn | exact rw_w hn | exact rw_A hn (by exact rfl) | exact rw_B2 hn | exact rw_B3 hn | assumption) (by decide) (by decide)) (Nat.le_of_ble_eq_true rfl) (Nat.le_of_ble_eq_true rfl) (fun E w9 hq => hq.elim) ?_
    rintro v9 w9 ⟨rfl, rfl⟩
    refine x_ifneB rfl (fun c1 => ?_) (fun c1 => ?_)
    rotate_left
    · refine x_go rfl ?_
      exact skip _ _ hA (fun h => c1 h.1)
    refine x_al rfl rfl ?_
    refine x_il rfl rfl ?_
    refine x_al rfl rfl ?_
    refine x_call1 (n_today hn) rfl (Nat.le_of_ble_eq_true rfl) (Or.inl (by first | exact hn | assumption)) (rcv_at (by first | exact rw_md hn | exact rw_w hn | exact rw_A hn (by exact rfl) | exact rw_B2 hn | exact rw_B3 hn | assumption) (by decide) (by decide)) (Nat.le_of_ble_eq_true rfl) (Nat.le_of_ble_eq_true rfl) (fun E w9 hq => hq.elim) ?_
    rintro v9 w9 ⟨rfl, rfl⟩
    refine x_call3 (n_keptOf hTx (by omega) hn) rfl (Nat.le_of_ble_eq_true rfl) (Or.inl (by first | exact hn | assumption)) (rcv_at (by first | exact rw_md hn | exact rw_w hn | exact rw_A hn (by exact rfl) | exact rw_B2 hn | exact rw_B3 hn | assumption) (by decide) (by decide)) (Nat.le_of_ble_eq_true rfl) (Nat.le_of_ble_eq_true rfl) (fun E w9 hq => hq.elim) ?_
    rintro v9 w9 ⟨M', A2, rfl, hk2, hA2, rfl, hm2, hFc⟩
    refine x_is (lo' := [_, _, _, _, _]) rfl (Nat.le_of_ble_eq_true rfl) rfl ?_
    refine x_al rfl rfl ?_
    refine x_il rfl rfl ?_
    refine x_c rfl ?_
    subst hm2
    refine x_call3 (n_firstOf hox hFc hn) rfl (Nat.le_of_ble_eq_true rfl) (Or.inl (by first | exact hn | assumption)) (rcv_at (by first | exact rw_md hn | exact rw_w hn | exact rw_A hn (by exact rfl) | exact rw_B2 hn | exact rw_B3 hn | assumption) (by decide) (by decide)) (Nat.le_of_ble_eq_true rfl) (Nat.le_of_ble_eq_true rfl) (fun E w9 hq => hq.elim) ?_
    rintro v9 w9 ⟨rfl, mt, rfl⟩
    have hA3 : keepB A (udA A2 1436 mt) := keepB_t hA (keepB_t hA2 (keepB_u (by decide)))
    refine x_ifge rfl (fun c2 => ?_) (fun c2 => ?_)
    · skip
      exact put _ _ hA3 ⟨c1, Or.inl c2⟩
    refine x_il rfl rfl ?_
    refine x_ifeq rfl (fun c3 => ?_) (fun c3 => ?_)
    · skip
      exact skip _ _ hA3 (fun h => h.2.elim c2 (fun h => by rw [bI_z.mp c3] at h; exact absurd h.1 (by decide)))
    refine x_al rfl rfl ?_
    refine x_call1 (n_today hn) rfl (Nat.le_of_ble_eq_true rfl) (Or.inl (by first | exact hn | assumption)) (rcv_at (by first | exact rw_md hn | exact rw_w hn | exact rw_A hn (by exact rfl) | exact rw_B2 hn | exact rw_B3 hn | assumption) (by decide) (by decide)) (Nat.le_of_ble_eq_true rfl) (Nat.le_of_ble_eq_true rfl) (fun E w9 hq => hq.elim) ?_
    rintro v9 w9 ⟨rfl, rfl⟩
    refine x_al rfl rfl ?_
    refine x_il rfl rfl ?_
    refine x_c rfl ?_
    refine x_call3 (n_of (k := 1) (by omega) hn) rfl (Nat.le_of_ble_eq_true rfl) (Or.inl (by first | exact hn | assumption)) (rcv_at (by first | exact rw_md hn | exact rw_w hn | exact rw_A hn (by exact rfl) | exact rw_B2 hn | exact rw_B3 hn | assumption) (by decide) (by decide)) (Nat.le_of_ble_eq_true rfl) (Nat.le_of_ble_eq_true rfl) (fun E w9 hq => hq.elim) ?_
    rintro v9 w9 ⟨rfl, rfl⟩
    refine x_sub rfl ?_
    refine x_il rfl rfl ?_
    have c4 : keepsB f o = true := by
      cases hh : keepsB f o with
      | true => rfl
      | false => rw [hh] at c3; exact absurd rfl c3
    refine x_icle rfl (fun c5 => ?_) (fun c5 => ?_)
    · skip
      exact skip _ _ hA3 (fun h => h.2.elim c2 (fun h => absurd c5 (Int32.not_le.mpr h.2)))
    exact put _ _ hA3 ⟨c1, Or.inr ⟨c4, Int32.not_le.mp c5⟩⟩
  cases o with
  | none =>
    refine x_il rfl rfl ?_
    refine x_al rfl rfl ?_
    refine x_il rfl rfl ?_
    refine x_call2 (n_rulesOf ho10 hn) rfl (Nat.le_of_ble_eq_true rfl) (Or.inl (by first | exact hn | assumption)) (rcv_at (by first | exact rw_md hn | exact rw_w hn | exact rw_A hn (by exact rfl) | exact rw_B2 hn | exact rw_B3 hn | assumption) (by decide) (by decide)) (Nat.le_of_ble_eq_true rfl) (Nat.le_of_ble_eq_true rfl) (fun E w9 hq => hq.elim) ?_
    rintro v9 w9 ⟨rfl, rfl⟩
    refine x_icge rfl (fun c => ?_) (fun c => absurd (show (0 : Int32) ≤ 0 by decide) c)
    refine x_c rfl ?_
    refine x_is (lo' := [_, _, _, _, _]) rfl (Nat.le_of_ble_eq_true rfl) rfl ?_
    exact loop2 0 (Nat.zero_le _) _ _ keepB_r
  | some t =>
    obtain ⟨ht, r, hr, hrr, hk⟩ := hbest
    have hrc : rulC f t = r := by unfold rulC; rw [hrr, nI_clamp (by omega)]
    have loop1 : ∀ k, k ≤ r → EX g mbOf (Ev g (d + 4)) (infoOf 287) k_X11_strikes (fun v w' => v = none ∧ ∃ A', w' = rW w m P A' B ∧ keepB A A') noX w.1 (rW w m f A B) 0 0 9 [some (.ref 1424), some (.int (oI (some t))), some (.int (bI (decide (¬ cn (fun k => f (rl t k) == 4) k = 0)))), some (.int (nI k)), none] [] := by
      refine downN r fun k hkr ih => ?_
      refine x_il rfl rfl ?_
      refine x_al rfl rfl ?_
      refine x_il rfl rfl ?_
      refine x_call2 (n_rulesOf ho10 hn) rfl (Nat.le_of_ble_eq_true rfl) (Or.inl (by first | exact hn | assumption)) (rcv_at (by first | exact rw_md hn | exact rw_w hn | exact rw_A hn (by exact rfl) | exact rw_B2 hn | exact rw_B3 hn | assumption) (by decide) (by decide)) (Nat.le_of_ble_eq_true rfl) (Nat.le_of_ble_eq_true rfl) (fun E w9 hq => hq.elim) ?_
      rintro v9 w9 ⟨rfl, rfl⟩
      rw [show rulN f (some t) = nI r from hrr]
      refine x_icgeN rfl (by omega) (fun c0 => ?_) (fun c0 => ?_)
      · refine x_c rfl ?_
        refine x_is (lo' := [_, _, _, _, _]) rfl (Nat.le_of_ble_eq_true rfl) rfl ?_
        obtain rfl : k = r := by omega
        rw [← hrc]
        exact loop2 0 (Nat.zero_le _) _ _ keepB_r
      refine x_il rfl rfl ?_
      have ih := ih c0
      have fin : ∀ z : Bool, (z = true ↔ ¬ cn (fun k => f (rl t k) == 4) (k + 1) = 0) → EX g mbOf (Ev g (d + 4)) (infoOf 287) k_X11_strikes (fun v w' => v = none ∧ ∃ A', w' = rW w m P A' B ∧ keepB A A') noX w.1 (rW w m f A B) 0 0 27 [some (.ref 1424), some (.int (oI (some t))), some (.int (bI (decide (¬ cn (fun k => f (rl t k) == 4) k = 0)))), some (.int (nI k)), none] [.int (bI z)] := by
        intro z hz
        have e : decide (¬ cn (fun k => f (rl t k) == 4) (k + 1) = 0) = z := by
          cases z
          · exact decide_eq_false (fun h => absurd (hz.mpr h) (by decide))
          · exact decide_eq_true (hz.mp rfl)
        rw [e] at ih
        refine x_is (lo' := [_, _, _, _, _]) rfl (Nat.le_of_ble_eq_true rfl) rfl ?_
        refine x_inc1 (lo' := [_, _, _, _, _]) rfl rfl rfl ?_
        refine x_go rfl ?_
        exact ih
      have hcn : cn (fun k => f (rl t k) == 4) (k + 1) = cn (fun k => f (rl t k) == 4) k + if (f (rl t k) == 4) = true then 1 else 0 := rfl
      refine x_ifneB rfl (fun c1 => ?_) (fun c1 => ?_)
      · refine x_c rfl ?_
        refine x_go rfl ?_
        exact fin true ⟨fun _ => by rw [hcn]; omega, fun _ => rfl⟩
      refine x_al rfl rfl ?_
      refine x_get rfl (rw_md hn) (by exact rfl) ?_
      refine x_il rfl rfl ?_
      refine x_il rfl rfl ?_
      rw [show oI (some t) = nI t from rfl]
      refine x_call2 (m_ruleAt hn) rfl (Nat.le_of_ble_eq_true rfl) (Or.inl (by first | exact hn | assumption)) trivial (Nat.le_of_ble_eq_true rfl) (Nat.le_of_ble_eq_true rfl) (fun E w9 hq => hq.elim) ?_
      rintro v9 w9 ⟨rfl, rfl⟩
      refine x_iaN rfl (by first | exact rw_md hn | exact rw_w hn | exact rw_A hn (by exact rfl) | exact rw_B2 hn | exact rw_B3 hn | assumption) (by omega) ?_
      refine x_c rfl ?_
      have c1 : cn (fun k => f (rl t k) == 4) k = 0 := Decidable.byContradiction fun h => c1 h
      refine x_icne rfl (fun c2 => ?_) (fun c2 => ?_)
      · refine x_c rfl ?_
        have c2 : ¬ f (rl t k) = 4 := c2
        exact fin false ⟨fun h => absurd h (by decide), fun h => by rw [hcn, c1, if_neg (by simpa using c2)] at h; exact absurd rfl h⟩
      refine x_c rfl ?_
      refine x_go rfl ?_
      have c2 : f (rl t k) = 4 := c2
      exact fin true ⟨fun _ => by rw [hcn, if_pos (by simpa using c2)]; omega, fun _ => rfl⟩
    exact loop1 0 (Nat.zero_le _)
end STRIKES
