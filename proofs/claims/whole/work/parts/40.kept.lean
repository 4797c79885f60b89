/-! kept, said, proved, alike -/
def cN (x : Int32) : Nat := x.toNatClampNeg
/-- counts of points as they should be -/
def WP (f : Nat → Int32) : Prop := (∀ p, p < 60 → f (5 + 97 * p + 64) = nI (cN (f (5 + 97 * p + 64))) ∧ cN (f (5 + 97 * p + 64)) ≤ 8) ∧ ∀ k, k < 20 → f (5826 + 39 * k + 6) = nI (cN (f (5826 + 39 * k + 6))) ∧ cN (f (5826 + 39 * k + 6)) ≤ 8
/-- the lay of mark k on print p -/
def layMk (f : Nat → Int32) (k p : Nat) : bS := layM f k p (cN (f (5826 + 39 * k + 6))) (cN (f (5 + 97 * p + 64)))
/-- the lay of print p on print q -/
def layPq (f : Nat → Int32) (p q : Nat) : bS := layF f (5 + 97 * p + 64) (5 + 97 * q + 64) (cN (f (5 + 97 * p + 64))) (cN (f (5 + 97 * q + 64))) 0 0 63 63
def tgM (f : Nat → Int32) (k : Nat) : Nat → Bool := tgG (decide (f (5826 + 39 * k + 5) = 1))
def fcM (f : Nat → Int32) (k p : Nat) (day : Int32) : Nat → Int32 := fc5 (layMk f k p).1 (layMk f k p).2.1 (f (5826 + 39 * k + 6)) (clsF f p) (day - f (5826 + 39 * k))
def fcP (f : Nat → Int32) (p q : Nat) : Nat → Int32 := fc5 (layPq f p q).1 (layPq f p q).2.1 (f (5 + 97 * p + 64)) (clsF f q) 0
def fcC (f : Nat → Int32) (c : Nat) (day : Int32) : Nat → Int32 := fc5 0 0 0 0 (day - f (6607 + 26 * c + 1))
def keptF (f : Nat → Int32) (n c : Nat) (day : Int32) : Int32 := keepT f (bestT f day n) (tgC f c day) (fcC f c day)
theorem keepT_s (f : Nat → Int32) (t : Nat) (tg : Nat → Bool) (fc : Nat → Int32) : keepT f (some t) tg fc = acc (fun k v => if f (rl t k) = 4 ∧ holdR f t k tg fc = true then (if f (rl t k + 1) ≤ v then v else f (rl t k + 1)) else v) 0 (rulC f t) := rfl
/-- what examiner e last said by day -/
def sdF (f : Nat → Int32) (e k c i day : Int32) : Nat → Int32 := acc (fun r v => if f (10224 + 6 * r) = e ∧ f (10224 + 6 * r + 1) = k ∧ f (10224 + 6 * r + 2) = c ∧ f (10224 + 6 * r + 3) = i ∧ f (10224 + 6 * r + 5) ≤ day then f (10224 + 6 * r + 4) else v) (-1)
section KEPT
variable {g : aG} {d : Nat} {w : aW} {m f : Nat → Int32} {A : Nat → Nat → Int32} {B : Nat → Nat → Int64}
theorem n_keptOf {c n : Nat} {day : Int32} (hT : WT f n) (hc : c < 16) (hn : w.1 = N0) : Ev g (d + 4) 268 [.ref 1424, .int (nI c), .int day] (rW w m f A B) (ScQ w m f A B (fun v m' A' => v = some (.int (keptF f n c day)) ∧ m' = m ∧ Fc A' (tgC f c day) (fcC f c day))) noX := by
  refine ev_X11_keptOf ?_ (Nat.le_of_ble_eq_true rfl)
  refine x_lo (lo' := [some (.ref 1424), some (.int (nI c)), some (.int day), none, none, none]) rfl ?_
  refine x_al rfl rfl ?_
  refine x_il rfl rfl ?_
  refine x_il rfl rfl ?_
  refine x_call3 (n_looksAtCard hc hn) rfl (Nat.le_of_ble_eq_true rfl) (Or.inl (by first | exact hn | assumption)) (rcv_at (by first | exact rw_md hn | exact rw_w hn | exact rw_A hn (by exact rfl) | exact rw_B2 hn | exact rw_B3 hn | assumption) (by decide) (by decide)) (Nat.le_of_ble_eq_true rfl) (Nat.le_of_ble_eq_true rfl) (fun E w9 hq => hq.elim) ?_
  rintro v9 w9 ⟨rfl, A2, rfl, hF, hA⟩
  refine x_al rfl rfl ?_
  refine x_il rfl rfl ?_
  refine x_call2 (n_textOf hT.1 hT.2.1 hn) rfl (Nat.le_of_ble_eq_true rfl) (Or.inl (by first | exact hn | assumption)) (rcv_at (by first | exact rw_md hn | exact rw_w hn | exact rw_A hn (by exact rfl) | exact rw_B2 hn | exact rw_B3 hn | assumption) (by decide) (by decide)) (Nat.le_of_ble_eq_true rfl) (Nat.le_of_ble_eq_true rfl) (fun E w9 hq => hq.elim) ?_
  rintro v9 w9 ⟨rfl, rfl⟩
  refine x_is (lo' := [_, _, _, _, _, _]) rfl (Nat.le_of_ble_eq_true rfl) rfl ?_
  refine x_c rfl ?_
  refine x_is (lo' := [_, _, _, _, _, _]) rfl (Nat.le_of_ble_eq_true rfl) rfl ?_
  refine x_c rfl ?_
  refine x_is (lo' := [_, _, _, _, _, _]) rfl (Nat.le_of_ble_eq_true rfl) rfl ?_
  have ho := hT.best day
  have hB : keepB A A2 := fun q hq => hA q (by omega) (by omega)
  unfold keptF
  generalize bestT f day n = o at *
  have ho10 : ∀ t, o = some t → t < 10 := fun t h => by subst h; exact ho.1
  cases o with
  | none =>
    refine x_il rfl rfl ?_
    refine x_al rfl rfl ?_
    refine x_il rfl rfl ?_
    refine x_call2 (n_rulesOf ho10 hn) rfl (Nat.le_of_ble_eq_true rfl) (Or.inl (by first | exact hn | assumption)) (rcv_at (by first | exact rw_md hn | exact rw_w hn | exact rw_A hn (by exact rfl) | exact rw_B2 hn | exact rw_B3 hn | assumption) (by decide) (by decide)) (Nat.le_of_ble_eq_true rfl) (Nat.le_of_ble_eq_true rfl) (fun E w9 hq => hq.elim) ?_
    rintro v9 w9 ⟨rfl, rfl⟩
    refine x_icge rfl (fun c => ?_) (fun c => absurd (show (0 : Int32) ≤ 0 by decide) c)
    refine x_il rfl rfl ?_
    refine x_reti rfl (Nat.le_of_ble_eq_true rfl) (Nat.le_of_ble_eq_true rfl) rfl ?_
    exact ⟨m, A2, rfl, fun _ _ _ => rfl, hB, rfl, rfl, hF⟩
  | some t =>
    obtain ⟨ht, r, hr, hrr, hk⟩ := ho
    have hrc : rulC f t = r := by unfold rulC; rw [hrr, nI_clamp (by omega)]
    rw [keepT_s, hrc]
    have loop : ∀ k, k ≤ r → ∀ mt, EX g mbOf (Ev g (d + 3)) (infoOf 268) k_X11_keptOf (ScQ w m f A B (fun v m' A' => v = some (.int (acc (fun k v => if f (rl t k) = 4 ∧ holdR f t k (tgC f c day) (fcC f c day) = true then (if f (rl t k + 1) ≤ v then v else f (rl t k + 1)) else v) 0 r)) ∧ m' = m ∧ Fc A' (tgC f c day) (fcC f c day))) noX w.1 (rW w m f (udA A2 1436 mt) B) 0 0 12 [some (.ref 1424), some (.int (nI c)), some (.int day), some (.int (oI (some t))), some (.int (acc (fun k v => if f (rl t k) = 4 ∧ holdR f t k (tgC f c day) (fcC f c day) = true then (if f (rl t k + 1) ≤ v then v else f (rl t k + 1)) else v) 0 k)), some (.int (nI k))] [] := by
      refine downN r fun k hkr ih => ?_
      intro mt
      refine x_il rfl rfl ?_
      refine x_al rfl rfl ?_
      refine x_il rfl rfl ?_
      refine x_call2 (n_rulesOf ho10 hn) rfl (Nat.le_of_ble_eq_true rfl) (Or.inl (by first | exact hn | assumption)) (rcv_at (by first | exact rw_md hn | exact rw_w hn | exact rw_A hn (by exact rfl) | exact rw_B2 hn | exact rw_B3 hn | assumption) (by decide) (by decide)) (Nat.le_of_ble_eq_true rfl) (Nat.le_of_ble_eq_true rfl) (fun E w9 hq => hq.elim) ?_
      rintro v9 w9 ⟨rfl, rfl⟩
      rw [show rulN f (some t) = nI r from hrr]
      refine x_icgeN rfl (by omega) (fun c1 => ?_) (fun c1 => ?_)
      · refine x_il rfl rfl ?_
        refine x_reti rfl (Nat.le_of_ble_eq_true rfl) (Nat.le_of_ble_eq_true rfl) rfl ?_
        obtain rfl : k = r := by omega
        exact ⟨m, _, rfl, fun _ _ _ => rfl, keepB_t hB (keepB_u (by decide)), rfl, rfl, hF.mt⟩
      refine x_al rfl rfl ?_
      refine x_get rfl (rw_md hn) (by exact rfl) ?_
      refine x_il rfl rfl ?_
      refine x_il rfl rfl ?_
      rw [show oI (some t) = nI t from rfl]
      refine x_call2 (m_ruleAt hn) rfl (Nat.le_of_ble_eq_true rfl) (Or.inl (by first | exact hn | assumption)) trivial (Nat.le_of_ble_eq_true rfl) (Nat.le_of_ble_eq_true rfl) (fun E w9 hq => hq.elim) ?_
      rintro v9 w9 ⟨rfl, rfl⟩
      refine x_iaN rfl (by first | exact rw_md hn | exact rw_w hn | exact rw_A hn (by exact rfl) | exact rw_B2 hn | exact rw_B3 hn | assumption) (by omega) ?_
      refine x_c rfl ?_
      have ih := ih c1
      rw [acc_s] at ih
      generalize acc (fun k v => if f (rl t k) = 4 ∧ holdR f t k (tgC f c day) (fcC f c day) = true then (if f (rl t k + 1) ≤ v then v else f (rl t k + 1)) else v) 0 k = v at *
      refine x_icne rfl (fun c2 => ?_) (fun c2 => ?_)
      · refine x_inc1 (lo' := [_, _, _, _, _, _]) rfl rfl rfl ?_
        refine x_go rfl ?_
        rw [if_neg (fun h => c2 h.1)] at ih
        exact ih mt
      refine x_al rfl rfl ?_
      refine x_il rfl rfl ?_
      refine x_il rfl rfl ?_
      refine x_call3 (n_holdR (tg := tgC f c day) (fc := fcC f c day) ht (by omega) (hk k c1) hF.mt hn) rfl (Nat.le_of_ble_eq_true rfl) (Or.inl (by first | exact hn | assumption)) (rcv_at (by first | exact rw_md hn | exact rw_w hn | exact rw_A hn (by exact rfl) | exact rw_B2 hn | exact rw_B3 hn | assumption) (by decide) (by decide)) (Nat.le_of_ble_eq_true rfl) (Nat.le_of_ble_eq_true rfl) (fun E w9 hq => hq.elim) ?_
      rintro v9 w9 ⟨rfl, mt2, rfl⟩
      rw [udA_udA]
      refine x_ifeq rfl (fun c3 => ?_) (fun c3 => ?_)
      · refine x_inc1 (lo' := [_, _, _, _, _, _]) rfl rfl rfl ?_
        refine x_go rfl ?_
        rw [if_neg (fun h => by rw [bI_z.mp c3] at h; exact absurd h.2 (by decide))] at ih
        exact ih mt2
      refine x_il rfl rfl ?_
      refine x_al rfl rfl ?_
      refine x_get rfl (rw_md hn) (by exact rfl) ?_
      refine x_il rfl rfl ?_
      refine x_il rfl rfl ?_
      have c4 : holdR f t k (tgC f c day) (fcC f c day) = true := by
        cases hh : holdR f t k (tgC f c day) (fcC f c day) with
        | true => rfl
        | false => rw [hh] at c3; exact absurd rfl c3
      rw [if_pos ⟨c2, c4⟩] at ih
      refine x_call2 (m_ruleAt hn) rfl (Nat.le_of_ble_eq_true rfl) (Or.inl (by first | exact hn | assumption)) trivial (Nat.le_of_ble_eq_true rfl) (Nat.le_of_ble_eq_true rfl) (fun E w9 hq => hq.elim) ?_
      rintro v9 w9 ⟨rfl, rfl⟩
      refine x_c rfl ?_
      refine x_addN (y := 1) rfl ?_
      refine x_iaN rfl (by first | exact rw_md hn | exact rw_w hn | exact rw_A hn (by exact rfl) | exact rw_B2 hn | exact rw_B3 hn | assumption) (by omega) ?_
      refine x_call2 (m_max) rfl (Nat.le_of_ble_eq_true rfl) (Or.inl (by first | exact hn | assumption)) trivial (Nat.le_of_ble_eq_true rfl) (Nat.le_of_ble_eq_true rfl) (fun E w9 hq => hq.elim) ?_
      rintro v9 w9 ⟨rfl, rfl⟩
      refine x_is (lo' := [_, _, _, _, _, _]) rfl (Nat.le_of_ble_eq_true rfl) rfl ?_
      refine x_inc1 (lo' := [_, _, _, _, _, _]) rfl rfl rfl ?_
      refine x_go rfl ?_
      exact ih mt2
    have := loop 0 (Nat.zero_le _) (A2 1436)
    rw [udA_self] at this
    exact this
theorem n_saidOf {e k c i day : Int32} {ns : Nat} (hs : f 10223 = nI ns) (h200 : ns ≤ 200) (hn : w.1 = N0) : Ev g (d + 1) 272 [.ref 1424, .int e, .int k, .int c, .int i, .int day] (rW w m f A B) (RetQ (sdF f e k c i day ns) (rW w m f A B)) noX := by
  refine ev_X11_saidOf ?_ (Nat.le_of_ble_eq_true rfl)
  refine x_lo (lo' := [some (.ref 1424), some (.int e), some (.int k), some (.int c), some (.int i), some (.int day), none, none]) rfl ?_
  refine x_c rfl ?_
  refine x_is (lo' := [_, _, _, _, _, _, _, _]) rfl (Nat.le_of_ble_eq_true rfl) rfl ?_
  refine x_c rfl ?_
  refine x_is (lo' := [_, _, _, _, _, _, _, _]) rfl (Nat.le_of_ble_eq_true rfl) rfl ?_
  have loop : ∀ r, r ≤ ns → EX g mbOf (Ev g (d)) (infoOf 272) k_X11_saidOf (RetQ (sdF f e k c i day ns) (rW w m f A B)) noX w.1 (rW w m f A B) 0 0 4 [some (.ref 1424), some (.int e), some (.int k), some (.int c), some (.int i), some (.int day), some (.int (sdF f e k c i day r)), some (.int (nI (10224 + 6 * r)))] [] := by
    refine downN ns fun r hr ih => ?_
    refine x_il rfl rfl ?_
    refine x_c rfl ?_
    refine x_c rfl ?_
    refine x_al rfl rfl ?_
    refine x_get rfl (rw_md hn) (by exact rfl) ?_
    refine x_c rfl ?_
    refine x_iaN (j := 10223) rfl (by first | exact rw_md hn | exact rw_w hn | exact rw_A hn (by exact rfl) | exact rw_B2 hn | exact rw_B3 hn | assumption) (by omega) ?_
    rw [hs]
    refine x_mulN (x := 6) rfl ?_
    refine x_addN (x := 10224) rfl ?_
    refine x_icgeN rfl (by omega) (fun c0 => ?_) (fun c0 => ?_)
    · refine x_il rfl rfl ?_
      refine x_reti rfl (Nat.le_of_ble_eq_true rfl) (Nat.le_of_ble_eq_true rfl) rfl ?_
      obtain rfl : r = ns := by omega
      exact ⟨rfl, rfl⟩
    refine x_al rfl rfl ?_
    refine x_get rfl (rw_md hn) (by exact rfl) ?_
    refine x_il rfl rfl ?_
    refine x_iaN rfl (by first | exact rw_md hn | exact rw_w hn | exact rw_A hn (by exact rfl) | exact rw_B2 hn | exact rw_B3 hn | assumption) (by omega) ?_
    refine x_il rfl rfl ?_
    have c0 : r < ns := by omega
    have ih := ih c0
    have hstep : sdF f e k c i day (r + 1) = if f (10224 + 6 * r) = e ∧ f (10224 + 6 * r + 1) = k ∧ f (10224 + 6 * r + 2) = c ∧ f (10224 + 6 * r + 3) = i ∧ f (10224 + 6 * r + 5) ≤ day then f (10224 + 6 * r + 4) else sdF f e k c i day r := rfl
    rw [hstep] at ih
    generalize sdF f e k c i day r = v at *
    have next : ∀ v', EX g mbOf (Ev g (d)) (infoOf 272) k_X11_saidOf (RetQ (sdF f e k c i day ns) (rW w m f A B)) noX w.1 (rW w m f A B) 0 0 4 [some (.ref 1424), some (.int e), some (.int k), some (.int c), some (.int i), some (.int day), some (.int v'), some (.int (nI (10224 + 6 * (r + 1))))] [] → EX g mbOf (Ev g (d)) (infoOf 272) k_X11_saidOf (RetQ (sdF f e k c i day ns) (rW w m f A B)) noX w.1 (rW w m f A B) 0 0 59 [some (.ref 1424), some (.int e), some (.int k), some (.int c), some (.int i), some (.int day), some (.int v'), some (.int (nI (10224 + 6 * r)))] [] := by
      intro v' hx
      refine x_inc (lo' := [_, _, _, _, _, _, _, _]) rfl rfl rfl ?_
      refine x_go rfl ?_
      rw [show nI (10224 + 6 * r) + 6 = nI (10224 + 6 * (r + 1)) from nI_add _ 6]
      exact hx
    refine x_icne rfl (fun c1 => ?_) (fun c1 => ?_)
    · skip
      rw [if_neg (fun h => c1 h.1)] at ih
      exact next _ ih
    refine x_al rfl rfl ?_
    refine x_get rfl (rw_md hn) (by exact rfl) ?_
    refine x_il rfl rfl ?_
    refine x_c rfl ?_
    refine x_addN (y := 1) rfl ?_
    refine x_iaN rfl (by first | exact rw_md hn | exact rw_w hn | exact rw_A hn (by exact rfl) | exact rw_B2 hn | exact rw_B3 hn | assumption) (by omega) ?_
    refine x_il rfl rfl ?_
    refine x_icne rfl (fun c2 => ?_) (fun c2 => ?_)
    · skip
      rw [if_neg (fun h => c2 h.2.1)] at ih
      exact next _ ih
    refine x_al rfl rfl ?_
    refine x_get rfl (rw_md hn) (by exact rfl) ?_
    refine x_il rfl rfl ?_
    refine x_c rfl ?_
    refine x_addN (y := 2) rfl ?_
    refine x_iaN rfl (by first | exact rw_md hn | exact rw_w hn | exact rw_A hn (by exact rfl) | exact rw_B2 hn | exact rw_B3 hn | assumption) (by omega) ?_
    refine x_il rfl rfl ?_
    refine x_icne rfl (fun c3 => ?_) (fun c3 => ?_)
    · skip
      rw [if_neg (fun h => c3 h.2.2.1)] at ih
      exact next _ ih
    refine x_al rfl rfl ?_
    refine x_get rfl (rw_md hn) (by exact rfl) ?_
    refine x_il rfl rfl ?_
    refine x_c rfl ?_
    refine x_addN (y := 3) rfl ?_
    refine x_iaN rfl (by first | exact rw_md hn | exact rw_w hn | exact rw_A hn (by exact rfl) | exact rw_B2 hn | exact rw_B3 hn | assumption) (by omega) ?_
    refine x_il rfl rfl ?_
    refine x_icne rfl (fun c4 => ?_) (fun c4 => ?_)
    · skip
      rw [if_neg (fun h => c4 h.2.2.2.1)] at ih
      exact next _ ih
    refine x_al rfl rfl ?_
    refine x_get rfl (rw_md hn) (by exact rfl) ?_
    refine x_il rfl rfl ?_
    refine x_c rfl ?_
    refine x_addN (y := 5) rfl ?_
    refine x_iaN rfl (by first | exact rw_md hn | exact rw_w hn | exact rw_A hn (by exact rfl) | exact rw_B2 hn | exact rw_B3 hn | assumption) (by omega) ?_
    refine x_il rfl rfl ?_
    refine x_icgt rfl (fun c5 => ?_) (fun c5 => ?_)
    · skip
      rw [if_neg (fun h => absurd c5 (Int32.not_lt.mpr h.2.2.2.2))] at ih
      exact next _ ih
    refine x_al rfl rfl ?_
    refine x_get rfl (rw_md hn) (by exact rfl) ?_
    refine x_il rfl rfl ?_
    refine x_c rfl ?_
    refine x_addN (y := 4) rfl ?_
    refine x_iaN rfl (by first | exact rw_md hn | exact rw_w hn | exact rw_A hn (by exact rfl) | exact rw_B2 hn | exact rw_B3 hn | assumption) (by omega) ?_
    refine x_is (lo' := [_, _, _, _, _, _, _, _]) rfl (Nat.le_of_ble_eq_true rfl) rfl ?_
    rw [if_pos ⟨c1, c2, c3, c4, Int32.not_lt.mp c5⟩] at ih
    exact next _ ih
  exact loop 0 (Nat.zero_le _)
theorem n_isThere {c : Nat} {day : Int32} (hc : c < 16) (hn : w.1 = N0) : Ev g (d + 3) 278 [.ref 1424, .int (nI c), .int day] (rW w m f A B) (RetQ (bI (decide (f (6607 + 26 * c + 1) ≤ day ∧ (f (6607 + 26 * c + 2) < 0 ∨ day < f (6607 + 26 * c + 2))))) (rW w m f A B)) noX := by
  refine ev_X11_isThere ?_ (Nat.le_of_ble_eq_true rfl)
  refine x_lo (lo' := [some (.ref 1424), some (.int (nI c)), some (.int day)]) rfl ?_
  refine x_al rfl rfl ?_
  refine x_il rfl rfl ?_
  refine x_c rfl ?_
  refine x_call3 (n_of (k := 1) (by omega) hn) rfl (Nat.le_of_ble_eq_true rfl) (Or.inl (by first | exact hn | assumption)) (rcv_at (by first | exact rw_md hn | exact rw_w hn | exact rw_A hn (by exact rfl) | exact rw_B2 hn | exact rw_B3 hn | assumption) (by decide) (by decide)) (Nat.le_of_ble_eq_true rfl) (Nat.le_of_ble_eq_true rfl) (fun E w9 hq => hq.elim) ?_
  rintro v9 w9 ⟨rfl, rfl⟩
  refine x_il rfl rfl ?_
  refine x_icgt rfl (fun c1 => ?_) (fun c1 => ?_)
  · refine x_c rfl ?_
    refine x_retz rfl (Nat.le_of_ble_eq_true rfl) (Nat.le_of_ble_eq_true rfl) rfl (by first | rfl | assumption) ?_
    exact ret_f (fun h => absurd c1 (Int32.not_lt.mpr h.1))
  refine x_al rfl rfl ?_
  refine x_il rfl rfl ?_
  refine x_c rfl ?_
  have c1 := Int32.not_lt.mp c1
  refine x_call3 (n_of (k := 2) (by omega) hn) rfl (Nat.le_of_ble_eq_true rfl) (Or.inl (by first | exact hn | assumption)) (rcv_at (by first | exact rw_md hn | exact rw_w hn | exact rw_A hn (by exact rfl) | exact rw_B2 hn | exact rw_B3 hn | assumption) (by decide) (by decide)) (Nat.le_of_ble_eq_true rfl) (Nat.le_of_ble_eq_true rfl) (fun E w9 hq => hq.elim) ?_
  rintro v9 w9 ⟨rfl, rfl⟩
  refine x_iflt rfl (fun c2 => ?_) (fun c2 => ?_)
  · refine x_c rfl ?_
    refine x_go rfl ?_
    refine x_retz rfl (Nat.le_of_ble_eq_true rfl) (Nat.le_of_ble_eq_true rfl) rfl (by first | rfl | assumption) ?_
    exact ret_t ⟨c1, Or.inl c2⟩
  refine x_al rfl rfl ?_
  refine x_il rfl rfl ?_
  refine x_c rfl ?_
  refine x_call3 (n_of (k := 2) (by omega) hn) rfl (Nat.le_of_ble_eq_true rfl) (Or.inl (by first | exact hn | assumption)) (rcv_at (by first | exact rw_md hn | exact rw_w hn | exact rw_A hn (by exact rfl) | exact rw_B2 hn | exact rw_B3 hn | assumption) (by decide) (by decide)) (Nat.le_of_ble_eq_true rfl) (Nat.le_of_ble_eq_true rfl) (fun E w9 hq => hq.elim) ?_
  rintro v9 w9 ⟨rfl, rfl⟩
  refine x_il rfl rfl ?_
  refine x_icle rfl (fun c3 => ?_) (fun c3 => ?_)
  · refine x_c rfl ?_
    refine x_retz rfl (Nat.le_of_ble_eq_true rfl) (Nat.le_of_ble_eq_true rfl) rfl (by first | rfl | assumption) ?_
    exact ret_f (fun h => h.2.elim c2 (fun h => absurd c3 (Int32.not_le.mpr h)))
  refine x_c rfl ?_
  refine x_go rfl ?_
  refine x_retz rfl (Nat.le_of_ble_eq_true rfl) (Nat.le_of_ble_eq_true rfl) rfl (by first | rfl | assumption) ?_
  exact ret_t ⟨c1, Or.inr (Int32.not_le.mp c3)⟩
end KEPT
