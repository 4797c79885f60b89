/-! waiting, settled, comparing -/
abbrev wtP (f : Nat → Int32) (k x : Nat) : Prop := f (6607 + 26 * (x / 10) + 2) < 0 ∧ 0 ≤ f (6607 + 26 * (x / 10) + (6 + x % 10)) ∧ f (7023 + 10 * (16 * k + x / 10) + x % 10) = 0
def setB (f : Nat → Int32) (n ns k : Nat) : Nat → Bool := fun x => decide (f (6607 + 26 * (x / 10) + 2) < 0 ∧ prvP f n ns k (x / 10) (x % 10) (f 0))
def cm1 (f : Nat → Int32) (k x : Nat) : Nat → Int32 := upd (upd f (7023 + 10 * (16 * k + x / 10) + x % 10) 1) 3 (upd f (7023 + 10 * (16 * k + x / 10) + x % 10) 1 3 + 1)
def hitW (f : Nat → Int32) (h k x : Nat) (v p : Int32) : Nat → Int32 := upd (upd (upd (upd (upd (upd (upd (upd f (11425 + 7 * h) (nI k)) (11425 + 7 * h + 1) (nI (x / 10))) (11425 + 7 * h + 2) (nI (x % 10))) (11425 + 7 * h + 3) v) (11425 + 7 * h + 4) p) (11425 + 7 * h + 5) (f 0)) (11425 + 7 * h + 6) p) 11424 (nI (h + 1))
/-- mark k compared with finger x % 10 of card x / 10 -/
def cmpF (f : Nat → Int32) (n k x : Nat) : Nat → Int32 := if vM (cm1 f k x) n k (cN (f (6607 + 26 * (x / 10) + (6 + x % 10)))) (f 0) = 0 ∨ f 11424 = 200 then cm1 f k x else hitW (cm1 f k x) (cN (f 11424)) k x (vM (cm1 f k x) n k (cN (f (6607 + 26 * (x / 10) + (6 + x % 10)))) (f 0)) (layMk (cm1 f k x) k (cN (f (6607 + 26 * (x / 10) + (6 + x % 10))))).1
/-- what the desk may write -/
def dkC (i : Nat) : Prop := i = 3 ∨ (7023 ≤ i ∧ i < 10223) ∨ (11424 ≤ i ∧ i < 12825)
def agD (f f' : Nat → Int32) : Prop := ∀ i, ¬ dkC i → f' i = f i
theorem okH_c {f f' : Nat → Int32} {t : Nat} (h : ∀ i, 12825 ≤ i → f' i = f i) : ∀ k i x, okH f t k i x → okH f' t k i x := by
  intro k
  induction k with
  | zero => intro i x hx; exact hx
  | succ k ih =>
    intro i x hx
    have e : f' (cd t i) = f (cd t i) := h _ (by unfold cd; omega)
    rcases hx with ⟨a, b, c⟩ | ⟨a, b, c⟩ | ⟨⟨q, a, a'⟩, b, c⟩
    · exact Or.inl ⟨e.trans a, b, ih _ _ c⟩
    · exact Or.inr (Or.inl ⟨a.imp e.trans e.trans, b, ih _ _ c⟩)
    · exact Or.inr (Or.inr ⟨⟨q, a, e.trans a'⟩, b, ih _ _ c⟩)
theorem WT_c {f f' : Nat → Int32} {n : Nat} (h : ∀ i, 12825 ≤ i → f' i = f i) (hT : WT f n) : WT f' n := by
  refine ⟨(h _ (by omega)).trans hT.1, hT.2.1, fun t ht => ?_⟩
  obtain ⟨r, h1, h2, h3⟩ := hT.2.2 t ht
  refine ⟨r, h1, (h _ (by omega)).trans h2, fun k hk => ?_⟩
  obtain ⟨s, e, a, b, c, c2, c3⟩ := h3 k hk
  exact ⟨s, e, (h _ (by unfold rl; omega)).trans a, (h _ (by unfold rl; omega)).trans b, c, c2, okH_c h _ _ _ c3⟩
theorem WP_c {f f' : Nat → Int32} (h : ∀ i, 4 ≤ i → i < 6606 → f' i = f i) (hW : WP f) : WP f' := by
  refine ⟨fun p hp => ?_, fun k hk => ?_⟩
  · rw [h _ (by omega) (by omega)]; exact hW.1 p hp
  · rw [h _ (by omega) (by omega)]; exact hW.2 k hk
theorem WF1_c {f f' : Nat → Int32} {nc : Nat} (h : f' 6606 = f 6606) (h2 : ∀ c j, c < 16 → j < 10 → f' (6607 + 26 * c + (6 + j)) = f (6607 + 26 * c + (6 + j))) (hW : WF1 f nc) : WF1 f' nc := by
  refine ⟨h.trans hW.1, hW.2.1, fun c hc j hj => ?_⟩
  rw [h2 c j (by have := hW.2.1; omega) hj]
  exact hW.2.2 c hc j hj
/-- all that the desk relies on -/
def DI (f : Nat → Int32) (n nc nm ns : Nat) : Prop := WT f n ∧ WP f ∧ WF1 f nc ∧ f 5825 = nI nm ∧ nm ≤ 20 ∧ f 10223 = nI ns ∧ ns ≤ 200 ∧ ∃ h, h ≤ 200 ∧ f 11424 = nI h
theorem DI_c {f f' : Nat → Int32} {n nc nm ns : Nat} (h : agD f f') (hh : ∃ x, x ≤ 200 ∧ f' 11424 = nI x) (hD : DI f n nc nm ns) : DI f' n nc nm ns := by
  obtain ⟨a1, a2, a3, a4, a5, a6, a7, -⟩ := hD
  refine ⟨WT_c (fun i hi => h i (by unfold dkC; omega)) a1, WP_c (fun i h1 h2 => h i (by unfold dkC; omega)) a2, WF1_c (h _ (by unfold dkC; omega)) (fun c j hc hj => h _ (by unfold dkC; omega)) a3, (h _ (by unfold dkC; omega)).trans a4, a5, (h _ (by unfold dkC; omega)).trans a6, a7, hh⟩
theorem agD_u {f : Nat → Int32} {i : Nat} {v : Int32} (h : dkC i) : agD f (upd f i v) := fun j hj => pk_un (fun e => hj (e ▸ h))
theorem agD_t {f f' f'' : Nat → Int32} (h : agD f f') (h' : agD f' f'') : agD f f'' := fun i hi => (h' i hi).trans (h i hi)
theorem cm1_ag {f : Nat → Int32} {k x : Nat} (hk : k < 20) (hx : x < 160) : agD f (cm1 f k x) := agD_t (agD_u (by unfold dkC; omega)) (agD_u (by unfold dkC; omega))
theorem hitW_ag {f : Nat → Int32} {h k x : Nat} {v p : Int32} (hh : h < 200) : agD f (hitW f h k x v p) := by
  unfold hitW
  repeat' (first | exact agD_u (by unfold dkC; omega) | refine agD_t ?_ (agD_u (by unfold dkC; omega)))
section DESK
variable {g : aG} {d : Nat} {w : aW} {m f : Nat → Int32} {A : Nat → Nat → Int32} {B : Nat → Nat → Int64}
theorem n_isFiled {c : Nat} (hc : c < 16) (hn : w.1 = N0) : Ev g (d + 3) 235 [.ref 1424, .int (nI c)] (rW w m f A B) (RetQ (bI (decide (f (6607 + 26 * c + 2) < 0))) (rW w m f A B)) noX := m_isFiled (rw_old hn) hc hn
theorem n_isWaiting {k x : Nat} (hk : k < 20) (hx : x < 160) (hn : w.1 = N0) : Ev g (d + 4) 283 [.ref 1424, .int (nI k), .int (nI x)] (rW w m f A B) (RetQ (bI (decide (wtP f k x))) (rW w m f A B)) noX := by
  have hx2 : x / 10 < 16 := by omega
  have hx3 : x % 10 < 10 := by omega
  refine ev_X11_isWaiting ?_ (Nat.le_of_ble_eq_true rfl)
  refine x_lo (lo' := [some (.ref 1424), some (.int (nI k)), some (.int (nI x))]) rfl ?_
  refine x_al rfl rfl ?_
  refine x_il rfl rfl ?_
  refine x_c rfl ?_
  refine x_divN (y := 10) rfl (by omega) ?_
  refine x_call2 (n_isFiled hx2 hn) rfl (Nat.le_of_ble_eq_true rfl) (Or.inl (by first | exact hn | assumption)) (rcv_at (by first | exact rw_md hn | exact rw_w hn | exact rw_A hn (by exact rfl) | exact rw_B2 hn | exact rw_B3 hn | assumption) (by decide) (by decide)) (Nat.le_of_ble_eq_true rfl) (Nat.le_of_ble_eq_true rfl) (fun E w9 hq => hq.elim) ?_
  rintro v9 w9 ⟨rfl, rfl⟩
  refine x_ifeqB rfl (fun c1 => ?_) (fun c1 => ?_)
  · refine x_c rfl ?_
    refine x_retz rfl (Nat.le_of_ble_eq_true rfl) (Nat.le_of_ble_eq_true rfl) rfl (by first | rfl | assumption) ?_
    exact ret_f (fun h => c1 h.1)
  refine x_al rfl rfl ?_
  refine x_il rfl rfl ?_
  refine x_c rfl ?_
  refine x_divN (y := 10) rfl (by omega) ?_
  refine x_c rfl ?_
  refine x_il rfl rfl ?_
  refine x_c rfl ?_
  refine x_remN (y := 10) rfl (by omega) ?_
  refine x_addN (x := 6) rfl ?_
  refine x_call3 (n_of (by omega) hn) rfl (Nat.le_of_ble_eq_true rfl) (Or.inl (by first | exact hn | assumption)) (rcv_at (by first | exact rw_md hn | exact rw_w hn | exact rw_A hn (by exact rfl) | exact rw_B2 hn | exact rw_B3 hn | assumption) (by decide) (by decide)) (Nat.le_of_ble_eq_true rfl) (Nat.le_of_ble_eq_true rfl) (fun E w9 hq => hq.elim) ?_
  rintro v9 w9 ⟨rfl, rfl⟩
  refine x_iflt rfl (fun c2 => ?_) (fun c2 => ?_)
  · refine x_c rfl ?_
    refine x_retz rfl (Nat.le_of_ble_eq_true rfl) (Nat.le_of_ble_eq_true rfl) rfl (by first | rfl | assumption) ?_
    exact ret_f (fun h => absurd c2 (Int32.not_lt.mpr h.2.1))
  refine x_al rfl rfl ?_
  refine x_get rfl (rw_md hn) (by exact rfl) ?_
  refine x_il rfl rfl ?_
  refine x_il rfl rfl ?_
  refine x_c rfl ?_
  refine x_divN (y := 10) rfl (by omega) ?_
  refine x_il rfl rfl ?_
  refine x_c rfl ?_
  refine x_remN (y := 10) rfl (by omega) ?_
  refine x_call3 (m_comparedAt) rfl (Nat.le_of_ble_eq_true rfl) (Or.inl (by first | exact hn | assumption)) trivial (Nat.le_of_ble_eq_true rfl) (Nat.le_of_ble_eq_true rfl) (fun E w9 hq => hq.elim) ?_
  rintro v9 w9 ⟨rfl, rfl⟩
  refine x_iaN rfl (by first | exact rw_md hn | exact rw_w hn | exact rw_A hn (by exact rfl) | exact rw_B2 hn | exact rw_B3 hn | assumption) (by omega) ?_
  refine x_ifne rfl (fun c3 => ?_) (fun c3 => ?_)
  · refine x_c rfl ?_
    refine x_retz rfl (Nat.le_of_ble_eq_true rfl) (Nat.le_of_ble_eq_true rfl) rfl (by first | rfl | assumption) ?_
    exact ret_f (fun h => c3 h.2.2)
  refine x_c rfl ?_
  refine x_go rfl ?_
  refine x_retz rfl (Nat.le_of_ble_eq_true rfl) (Nat.le_of_ble_eq_true rfl) rfl (by first | rfl | assumption) ?_
  exact ret_t ⟨c1, Int32.not_lt.mp c2, c3⟩
theorem n_today (hn : w.1 = N0) : Ev g (d + 1) 181 [.ref 1424] (rW w m f A B) (RetQ (f 0) (rW w m f A B)) noX := m_today (rw_old hn)
theorem n_isSettled {n nc nm ns k : Nat} (hD : DI f n nc nm ns) (hk : k < 20) (hn : w.1 = N0) : Ev g (d + 16) 284 [.ref 1424, .int (nI k)] (rW w m f A B) (ScQ w m f A B (fun v m' A' => v = some (.int (bI (decide (¬ cn (setB f n ns k) (10 * nc) = 0)))))) noX := by
  obtain ⟨hT, hW, hF1, h5, h6, hs, h200, -⟩ := hD
  have hnc := hF1.2.1
  refine ev_X11_isSettled ?_ (Nat.le_of_ble_eq_true rfl)
  refine x_lo (lo' := [some (.ref 1424), some (.int (nI k)), none]) rfl ?_
  refine x_c rfl ?_
  refine x_is (lo' := [_, _, _]) rfl (Nat.le_of_ble_eq_true rfl) rfl ?_
  have loop : ∀ x, x ≤ 10 * nc → cn (setB f n ns k) x = 0 → ∀ m' A', keepS m m' → keepB A A' → EX g mbOf (Ev g (d + 15)) (infoOf 284) k_X11_isSettled (ScQ w m f A B (fun v m' A' => v = some (.int (bI (decide (¬ cn (setB f n ns k) (10 * nc) = 0)))))) noX w.1 (rW w m' f A' B) 0 0 2 [some (.ref 1424), some (.int (nI k)), some (.int (nI x))] [] := by
    refine downN (10 * nc) fun x hx ih => ?_
    intro h0 m' A' hk1 hA
    refine x_il rfl rfl ?_
    refine x_c rfl ?_
    refine x_al rfl rfl ?_
    refine x_get rfl (rw_md hn) (by exact rfl) ?_
    refine x_c rfl ?_
    refine x_iaN (j := 6606) rfl (by first | exact rw_md hn | exact rw_w hn | exact rw_A hn (by exact rfl) | exact rw_B2 hn | exact rw_B3 hn | assumption) (by omega) ?_
    rw [hF1.1]
    refine x_mulN (x := 10) rfl ?_
    refine x_icgeN rfl (by omega) (fun c0 => ?_) (fun c0 => ?_)
    · refine x_c rfl ?_
      refine x_retz rfl (Nat.le_of_ble_eq_true rfl) (Nat.le_of_ble_eq_true rfl) rfl (by first | rfl | assumption) ?_
      obtain rfl : x = 10 * nc := by omega
      exact ⟨m', A', rfl, hk1, hA, by rw [bI_f (fun h => h h0)]⟩
    refine x_al rfl rfl ?_
    refine x_il rfl rfl ?_
    refine x_c rfl ?_
    have hx2 : x / 10 < nc := by omega
    have hx3 : x % 10 < 10 := by omega
    refine x_divN (y := 10) rfl (by omega) ?_
    refine x_call2 (n_isFiled (by omega) hn) rfl (Nat.le_of_ble_eq_true rfl) (Or.inl (by first | exact hn | assumption)) (rcv_at (by first | exact rw_md hn | exact rw_w hn | exact rw_A hn (by exact rfl) | exact rw_B2 hn | exact rw_B3 hn | assumption) (by decide) (by decide)) (Nat.le_of_ble_eq_true rfl) (Nat.le_of_ble_eq_true rfl) (fun E w9 hq => hq.elim) ?_
    rintro v9 w9 ⟨rfl, rfl⟩
    refine x_ifeqB rfl (fun c1 => ?_) (fun c1 => ?_)
    · refine x_inc1 (lo' := [_, _, _]) rfl rfl rfl ?_
      refine x_go rfl ?_
      exact ih (by omega) (by rw [cn_f (by unfold setB; rw [decide_eq_true_iff]; exact fun h => c1 h.1)]; exact h0) _ _ hk1 hA
    refine x_al rfl rfl ?_
    refine x_il rfl rfl ?_
    refine x_il rfl rfl ?_
    refine x_c rfl ?_
    refine x_divN (y := 10) rfl (by omega) ?_
    refine x_il rfl rfl ?_
    refine x_c rfl ?_
    refine x_remN (y := 10) rfl (by omega) ?_
    refine x_al rfl rfl ?_
    refine x_call1 (n_today hn) rfl (Nat.le_of_ble_eq_true rfl) (Or.inl (by first | exact hn | assumption)) (rcv_at (by first | exact rw_md hn | exact rw_w hn | exact rw_A hn (by exact rfl) | exact rw_B2 hn | exact rw_B3 hn | assumption) (by decide) (by decide)) (Nat.le_of_ble_eq_true rfl) (Nat.le_of_ble_eq_true rfl) (fun E w9 hq => hq.elim) ?_
    rintro v9 w9 ⟨rfl, rfl⟩
    refine x_call5 (n_isProved hT hW hs h200 hk (by omega) hx3 (hF1.2.2 _ hx2 _ hx3) hn) rfl (Nat.le_of_ble_eq_true rfl) (Or.inl (by first | exact hn | assumption)) (rcv_at (by first | exact rw_md hn | exact rw_w hn | exact rw_A hn (by exact rfl) | exact rw_B2 hn | exact rw_B3 hn | assumption) (by decide) (by decide)) (Nat.le_of_ble_eq_true rfl) (Nat.le_of_ble_eq_true rfl) (fun E w9 hq => hq.elim) ?_
    rintro v9 w9 ⟨M', A2, rfl, hk2, hA2, rfl⟩
    refine x_ifeqB rfl (fun c2 => ?_) (fun c2 => ?_)
    · refine x_inc1 (lo' := [_, _, _]) rfl rfl rfl ?_
      refine x_go rfl ?_
      exact ih (by omega) (by rw [cn_f (by unfold setB; rw [decide_eq_true_iff]; exact fun h => c2 h.2)]; exact h0) _ _ (keepS_t hk1 hk2) (keepB_t hA hA2)
    refine x_c rfl ?_
    refine x_retz rfl (Nat.le_of_ble_eq_true rfl) (Nat.le_of_ble_eq_true rfl) rfl (by first | rfl | assumption) ?_
    refine ⟨_, _, rfl, keepS_t hk1 hk2, keepB_t hA hA2, ?_⟩
    rw [bI_t]
    intro h
    have := cn_0 h (show x < 10 * nc by omega)
    unfold setB at this
    rw [decide_eq_true ⟨c1, c2⟩] at this
    cases this
  exact loop 0 (Nat.zero_le _) rfl _ _ keepS_r keepB_r
end DESK
