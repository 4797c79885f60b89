/-! the class reads a field; cw_ -/
section K
variable {t c : Nat → Int32} {en : Nat} {b : Nat → Nat}
theorem TpR.rng (h : TpR t c en b) {s x y : Nat} (hs : s < en) (hx : x < 128) (hy : y < 128) : (nI x ≤ t s ∧ t s ≤ nI y) ↔ (x ≤ b s ∧ b s ≤ y) := by
  rw [(h s hs).2.2]
  exact sbY_rng hx hy (h s hs).1
theorem TpR.bl (h : TpR t c en b) {s : Nat} (hs : s < en) : (s < en ∧ (32 : Int32) ≤ t s ∧ t s ≤ 32) ↔ b s = 32 := by
  have := h.rng hs (x := 32) (y := 32) (by omega) (by omega)
  constructor
  · intro h1
    have := this.mp h1.2
    omega
  · intro h1
    exact ⟨hs, this.mpr (by omega)⟩
theorem wS_b (h : TpR t c en b) {p : Nat} (hp : p < en) (hb : b p = 32) : wS t en p = wS t en (p + 1) := runs_t ((h.bl hp).mpr hb)
theorem wS_n (h : TpR t c en b) {p : Nat} (hp : p < en) (hb : ¬ b p = 32) : wS t en p = p := runs_f (fun h2 => hb ((h.bl hp).mp h2))
theorem wS_e {p : Nat} (hp : en ≤ p) : wS t en p = p := runs_f (fun h => by omega)
theorem digB_b (h : TpR t c en b) {s : Nat} (hs : s < en) : digB t en s = true ↔ (48 ≤ b s ∧ b s ≤ 55) := by
  unfold digB
  rw [decide_eq_true_iff]
  have := h.rng hs (x := 48) (y := 55) (by omega) (by omega)
  exact ⟨fun h1 => this.mp h1.2, fun h1 => ⟨hs, this.mpr h1⟩⟩
theorem dotB_b (h : TpR t c en b) {s : Nat} (hs : s < en) : dotB t en s = true ↔ b s = 46 := by
  unfold dotB
  rw [decide_eq_true_iff]
  have := h.rng hs (x := 46) (y := 46) (by omega) (by omega)
  exact ⟨fun h1 => by have := this.mp h1.2; omega, fun h1 => ⟨hs, this.mpr (by omega)⟩⟩
theorem sgB_b (h : TpR t c en b) {p k : Nat} (hk : k < 128) : sgB t en p (nI k) = true ↔ (wS t en p < en ∧ b (wS t en p) = k) := by
  unfold sgB
  rw [decide_eq_true_iff]
  constructor
  · intro h1
    have := (h.rng h1.1 (x := k) (y := k) hk hk).mp h1.2
    exact ⟨h1.1, by omega⟩
  · intro h1
    exact ⟨h1.1, (h.rng h1.1 (x := k) (y := k) hk hk).mpr (by omega)⟩
/-- a cell's direction by its sign -/
def dirI (k : Nat) : Int32 := if k = 46 then -1 else if 48 ≤ k ∧ k ≤ 55 then nI (k - 48) else -2
def celK (k : Nat) : Prop := k = 46 ∨ (48 ≤ k ∧ k ≤ 55)
/-- cells to come, no stroke ahead of the first -/
def pG (t : Nat → Int32) (en : Nat) : Nat → Nat → (Nat → Int32) → Bool × Nat × (Nat → Int32)
  | 0, p, dr => (false, p, dr)
  | r + 1, p, dr => if digB t en (wS t en p) = true ∨ dotB t en (wS t en p) = true then pF t en r (wS t en p + 1) (upd dr (63 - r) (if dotB t en (wS t en p) = true then -1 else t (wS t en p) - 48)) else (false, wS t en p, dr)
theorem pG_s {t : Nat → Int32} {en r p : Nat} {dr : Nat → Int32} : pG t en (r + 1) p dr = if digB t en (wS t en p) = true ∨ dotB t en (wS t en p) = true then pF t en r (wS t en p + 1) (upd dr (63 - r) (if dotB t en (wS t en p) = true then -1 else t (wS t en p) - 48)) else (false, wS t en p, dr) := rfl
/-- what is still to come at a place -/
def rst (t : Nat → Int32) (en row col p : Nat) (dr : Nat → Int32) : Bool × Nat × (Nat → Int32) := if col < 8 then pG t en (64 - (8 * row + col)) p dr else pF t en (64 - (8 * row + 8)) p dr
theorem pF_s {r p : Nat} {dr : Nat → Int32} (h : 0 < 63 - r ∧ (63 - r) % 8 = 0) : pF t en (r + 1) p dr = if sgB t en p 47 = true then pG t en (r + 1) (wS t en p + 1) dr else (false, wS t en p, dr) := by
  unfold pF pG
  by_cases h1 : sgB t en p 47 = true
  · rw [if_neg (fun h2 => h2.2 h1), if_pos h1]
    simp only [if_pos h]
  · rw [if_pos ⟨h, h1⟩, if_neg h1]
theorem pF_n {r p : Nat} {dr : Nat → Int32} (h : ¬ (0 < 63 - r ∧ (63 - r) % 8 = 0)) : pF t en (r + 1) p dr = pG t en (r + 1) p dr := by
  unfold pF pG
  rw [if_neg (fun h2 => h h2.1)]
  simp only [if_neg h]
theorem pG_c {p q : Nat} {dr : Nat → Int32} (e : wS t en p = wS t en q) : ∀ r, 0 < r → pG t en r p dr = pG t en r q dr := by
  intro r hr
  cases r with
  | zero => omega
  | succ r => rw [pG_s, pG_s, e]
theorem pF_c {p q : Nat} {dr : Nat → Int32} (e : wS t en p = wS t en q) : ∀ r, pF t en r p dr = pF t en r q dr := by
  intro r
  cases r with
  | zero => unfold pF; rw [e]
  | succ r =>
    by_cases h : 0 < 63 - r ∧ (63 - r) % 8 = 0
    · rw [pF_s h, pF_s h, show sgB t en p 47 = sgB t en q 47 by unfold sgB; rw [e], e]
    · rw [pF_n h, pF_n h, pG_c e _ (Nat.succ_pos r)]
theorem rst_bl (h : TpR t c en b) {row col p : Nat} {dr : Nat → Int32} (hr : row ≤ 7) (hp : p < en) (hb : b p = 32) : rst t en row col p dr = rst t en row col (p + 1) dr := by
  unfold rst
  by_cases hc : col < 8
  · rw [if_pos hc, if_pos hc, pG_c (wS_b h hp hb) _ (by omega)]
  · rw [if_neg hc, if_neg hc, pF_c (wS_b h hp hb)]
theorem rst_end {row col : Nat} {dr : Nat → Int32} (hr : row ≤ 7) (hc : col ≤ 8) (h : ¬ (row = 7 ∧ col = 8)) : rst t en row col en dr = (false, en, dr) := by
  have e : wS t en en = en := wS_e (Nat.le_refl _)
  unfold rst
  by_cases h1 : col < 8
  · rw [if_pos h1, show 64 - (8 * row + col) = (63 - (8 * row + col)) + 1 by omega]
    rw [pG_s, e, if_neg]
    rintro (h2 | h2)
    · exact absurd (of_decide_eq_true h2).1 (Nat.lt_irrefl _)
    · exact absurd (of_decide_eq_true h2).1 (Nat.lt_irrefl _)
  · rw [if_neg h1, show 64 - (8 * row + 8) = (63 - (8 * row + 8)) + 1 by omega, pF_s (by omega), if_neg, e]
    intro h2
    have := (of_decide_eq_true h2).1
    rw [e] at this
    exact absurd this (Nat.lt_irrefl _)
theorem rst_full {dr : Nat → Int32} : rst t en 7 8 en dr = (true, en, dr) := by
  have e : wS t en en = en := wS_e (Nat.le_refl _)
  show (decide (wS t en en = en), wS t en en, dr) = _
  rw [e]
  simp
/-- a sign that can't stand there -/
theorem rst_bad (h : TpR t c en b) {row col p : Nat} {dr : Nat → Int32} (hr : row ≤ 7) (hp : p < en) (hb : ¬ b p = 32) (hx : (col < 8 ∧ ¬ celK (b p)) ∨ (col = 8 ∧ (¬ b p = 47 ∨ row = 7))) : rst t en row col p dr = (false, p, dr) := by
  have e := wS_n h hp hb
  unfold rst
  rcases hx with ⟨h1, h2⟩ | ⟨h1, h2⟩
  · rw [if_pos h1, show 64 - (8 * row + col) = (63 - (8 * row + col)) + 1 by omega]
    rw [pG_s, e, if_neg]
    rintro (h3 | h3)
    · exact h2 (Or.inr ((digB_b h hp).mp h3))
    · exact h2 (Or.inl ((dotB_b h hp).mp h3))
  · rw [if_neg (by omega)]
    by_cases h7 : row = 7
    · subst h7
      show (decide (wS t en p = en), wS t en p, dr) = _
      rw [e, decide_eq_false (by omega)]
    · rw [show 64 - (8 * row + 8) = (63 - (8 * row + 8)) + 1 by omega, pF_s (by omega), if_neg, e]
      intro h3
      have h4 := ((sgB_b h (k := 47) (by omega)).mp h3).2
      rw [e] at h4
      rcases h2 with h2 | h2
      · exact h2 h4
      · exact h7 h2
theorem rst_st (h : TpR t c en b) {row p : Nat} {dr : Nat → Int32} (hr : row < 7) (hp : p < en) (hb : b p = 47) : rst t en row 8 p dr = rst t en (row + 1) 0 (p + 1) dr := by
  have e := wS_n h hp (by omega)
  unfold rst
  rw [if_neg (by omega), if_pos (by omega), show 64 - (8 * row + 8) = (63 - (8 * row + 8)) + 1 by omega, pF_s (by omega), if_pos (show sgB t en p 47 = true from (sgB_b h (k := 47) (by omega)).mpr (by rw [e]; exact ⟨hp, hb⟩)), e, show 64 - (8 * (row + 1) + 0) = (63 - (8 * row + 8)) + 1 by omega]
theorem rst_cell (h : TpR t c en b) {row col p : Nat} {dr : Nat → Int32} (hr : row ≤ 7) (hc : col < 8) (hp : p < en) (hk : celK (b p)) : rst t en row col p dr = rst t en row (col + 1) (p + 1) (upd dr (8 * row + col) (dirI (b p))) := by
  have e := wS_n h hp (by unfold celK at hk; omega)
  have ev : (if dotB t en p = true then -1 else t p - 48) = dirI (b p) := by
    unfold dirI
    by_cases h1 : b p = 46
    · rw [if_pos ((dotB_b h hp).mpr h1), if_pos h1]
    · unfold celK at hk
      rw [if_neg (fun h2 => h1 ((dotB_b h hp).mp h2)), if_neg h1, if_pos (by omega), (h p hp).2.2, sbY_lo (by omega)]
      exact pk_sub (a := b p) (b := 48) (by omega)
  unfold rst
  rw [if_pos hc, show 64 - (8 * row + col) = (63 - (8 * row + col)) + 1 by omega]
  show (if digB t en (wS t en p) = true ∨ dotB t en (wS t en p) = true then pF t en (63 - (8 * row + col)) (wS t en p + 1) (upd dr (63 - (63 - (8 * row + col))) (if dotB t en (wS t en p) = true then -1 else t (wS t en p) - 48)) else (false, wS t en p, dr)) = _
  rw [e, if_pos (by
    rcases hk with h1 | h1
    · exact Or.inr ((dotB_b h hp).mpr h1)
    · exact Or.inl ((digB_b h hp).mpr h1)), ev, show 63 - (63 - (8 * row + col)) = 8 * row + col by omega]
  by_cases h1 : col + 1 < 8
  · rw [if_pos h1, show 63 - (8 * row + col) = (62 - (8 * row + col)) + 1 by omega, pF_n (by omega), show 64 - (8 * row + (col + 1)) = (62 - (8 * row + col)) + 1 by omega]
  · rw [if_neg h1, show 64 - (8 * row + 8) = 63 - (8 * row + col) by omega]
theorem rst_0 {p : Nat} {dr : Nat → Int32} : rst t en 0 0 p dr = pF t en 64 p dr := (pF_n (r := 63) (by omega)).symm
end K
section CALLS
variable {g : aG} {d : Nat} {w : aW} {F A : Nat → Nat → Int32} {L : Nat → Int64}
theorem c_failAt {x : Int32} (hn : w.1 = N0) : Ev g (d + 1) 95 [.ref 1, .int x] (cW w F A L) (RetQ 0 (cW w (udA F 1 (upd (F 1) 2 x)) A L)) noX := by
  refine ev_X9_failAt ?_ (Nat.le_of_ble_eq_true rfl)
  refine x_lo (lo' := [some (.ref 1), some (.int x)]) rfl ?_
  refine x_al rfl rfl ?_
  refine x_il rfl rfl ?_
  refine x_putC rfl hn (by with_reducible exact sp_1) (by exact rfl) (by first | rfl | exact nr_z (by assumption)) (by first | rfl | exact fi_z _) ?_
  refine x_c rfl ?_
  refine x_retz rfl (Nat.le_of_ble_eq_true rfl) (Nat.le_of_ble_eq_true rfl) rfl (by first | rfl | assumption | exact bI_01 _) ?_
  exact ⟨rfl, rfl⟩
theorem c_directionBy {k : Nat} (hk : k < 256) : Ev g (d + 1) 31 [.int (nI k)] w (RetQ (dirI k) w) noX := by
  refine ev_X4_directionBy ?_ (Nat.le_of_ble_eq_true rfl)
  refine x_lo (lo' := [some (.int (nI k))]) rfl ?_
  refine x_il rfl rfl ?_
  refine x_c rfl ?_
  unfold dirI
  refine x_icneN (y := 46) rfl (by omega) (fun c1 => ?_) (fun c1 => ?_)
  rotate_left
  · refine x_c rfl ?_
    refine x_reti rfl (Nat.le_of_ble_eq_true rfl) (Nat.le_of_ble_eq_true rfl) rfl ?_
    rw [if_pos c1]
    exact ⟨rfl, rfl⟩
  refine x_il rfl rfl ?_
  refine x_c rfl ?_
  rw [if_neg c1]
  refine x_icltN (y := 48) rfl (by omega) (fun c2 => ?_) (fun c2 => ?_)
  · refine x_c rfl ?_
    refine x_reti rfl (Nat.le_of_ble_eq_true rfl) (Nat.le_of_ble_eq_true rfl) rfl ?_
    rw [if_neg (by omega)]
    exact ⟨rfl, rfl⟩
  refine x_il rfl rfl ?_
  refine x_c rfl ?_
  refine x_icgtN (y := 55) rfl (by omega) (fun c3 => ?_) (fun c3 => ?_)
  · refine x_c rfl ?_
    refine x_reti rfl (Nat.le_of_ble_eq_true rfl) (Nat.le_of_ble_eq_true rfl) rfl ?_
    rw [if_neg (by omega)]
    exact ⟨rfl, rfl⟩
  refine x_il rfl rfl ?_
  refine x_c rfl ?_
  first | refine x_subN (y := 48) rfl (by omega) ?_ | refine x_sub rfl ?_
  refine x_go rfl ?_
  refine x_reti rfl (Nat.le_of_ble_eq_true rfl) (Nat.le_of_ble_eq_true rfl) rfl ?_
  rw [if_pos (by omega)]
  exact ⟨rfl, rfl⟩
theorem dirI_ok {k : Nat} (h : celK k) : ¬ dirI k = -2 ∧ (dirI k = -1 ∨ ∃ v, v < 8 ∧ dirI k = nI v) := by
  unfold dirI
  by_cases h1 : k = 46
  · rw [if_pos h1]
    exact ⟨by decide, Or.inl rfl⟩
  · unfold celK at h
    rw [if_neg h1, if_pos (by omega)]
    exact ⟨fun e => nI_pos (n := k - 48) (by omega) (by rw [e]; decide), Or.inr ⟨k - 48, by omega, rfl⟩⟩
theorem dirI_no {k : Nat} (h : ¬ celK k) : dirI k = -2 := by
  unfold celK at h
  unfold dirI
  rw [if_neg (by omega), if_neg (by omega)]
theorem c_readField {t : Nat → Int32} {b : Nat → Nat} {en : Nat} {dr : Nat → Int32} (hB : TpR t (A 2) en b) (h1 : F 1 1 = nI en) (hen : en ≤ 400) (hn : w.1 = N0) : Ev g (d + 2) 30 [.ref 1407, .ref 1] (cW w F A L) (fun v w' => v = some (.int (bI (pF t en 64 0 dr).1)) ∧ ∃ cs, w' = cW w (udA F 1 (upd (F 1) 2 (if (pF t en 64 0 dr).1 = true then -1 else nI (pF t en 64 0 dr).2.1))) (udA A 1408 cs) L ∧ ((pF t en 64 0 dr).1 = true → ∀ k, k < 64 → cs k = (pF t en 64 0 dr).2.2 k ∧ (cs k = -1 ∨ ∃ v, v < 8 ∧ cs k = nI v))) noX := by
  have hP0 : rst t en 0 0 0 dr = pF t en 64 0 dr := rst_0
  generalize pF t en 64 0 dr = P at *
  have loop : ∀ p, p ≤ en → ∀ (row col : Nat) (dr1 cs : Nat → Int32) (z5 z6 : Option Value), row ≤ 7 → col ≤ 8 → rst t en row col p dr1 = P → (∀ i, i < 8 * row + col → cs i = dr1 i ∧ (cs i = -1 ∨ ∃ v, v < 8 ∧ cs i = nI v)) → EX g mbOf (Ev g (d + 1)) (infoOf 30) k_X4_readField (fun v w' => v = some (.int (bI P.1)) ∧ ∃ cs, w' = cW w (udA F 1 (upd (F 1) 2 (if P.1 = true then -1 else nI P.2.1))) (udA A 1408 cs) L ∧ (P.1 = true → ∀ k, k < 64 → cs k = P.2.2 k ∧ (cs k = -1 ∨ ∃ v, v < 8 ∧ cs k = nI v))) noX w.1 (cW w (udA F 1 (upd (F 1) 2 (-1))) (udA A 1408 cs) L) 0 0 9 [some (.ref 1407), some (.ref 1), some (.int (nI row)), some (.int (nI col)), some (.int (nI p)), z5, z6] [] := by
    refine downN en fun p hp ih => ?_
    intro row col dr1 cs z5 z6 hr hc hR hcs
    have bad : P = (false, p, dr1) → ∀ W, W = cW w (udA (udA F 1 (upd (F 1) 2 (-1))) 1 (upd (udA F 1 (upd (F 1) 2 (-1)) 1) 2 (nI p))) (udA A 1408 cs) L → (fun (v : Option Value) (w' : aW) => v = some (.int (bI P.1)) ∧ ∃ cs, w' = cW w (udA F 1 (upd (F 1) 2 (if P.1 = true then -1 else nI P.2.1))) (udA A 1408 cs) L ∧ (P.1 = true → ∀ k, k < 64 → cs k = P.2.2 k ∧ (cs k = -1 ∨ ∃ v, v < 8 ∧ cs k = nI v))) (some (.int 0)) W := by
      rintro rfl _ rfl
      refine ⟨rfl, cs, congrArg (fun z => cW w z (udA A 1408 cs) L) ?_, fun h => absurd h Bool.false_ne_true⟩
      rw [udA_t, udA_udA, upd_upd]
      exact congrArg (fun z => udA F 1 (upd (F 1) 2 z)) (if_neg Bool.false_ne_true).symm
    have f31 : ∀ (z5 z6 : Option Value), P = (false, p, dr1) → EX g mbOf (Ev g (d + 1)) (infoOf 30) k_X4_readField (fun v w' => v = some (.int (bI P.1)) ∧ ∃ cs, w' = cW w (udA F 1 (upd (F 1) 2 (if P.1 = true then -1 else nI P.2.1))) (udA A 1408 cs) L ∧ (P.1 = true → ∀ k, k < 64 → cs k = P.2.2 k ∧ (cs k = -1 ∨ ∃ v, v < 8 ∧ cs k = nI v))) noX w.1 (cW w (udA F 1 (upd (F 1) 2 (-1))) (udA A 1408 cs) L) 0 0 31 [some (.ref 1407), some (.ref 1), some (.int (nI row)), some (.int (nI col)), some (.int (nI p)), z5, z6] [] := by
      intro z5 z6 h
      refine x_al rfl rfl ?_
      refine x_il rfl rfl ?_
      refine x_call2 (c_failAt hn) rfl (Nat.le_of_ble_eq_true rfl) (Or.inl (by first | exact hn | assumption)) (rcv_at (cw_fs (by with_reducible exact sp_1) hn) (by decide) (by decide)) (Nat.le_of_ble_eq_true rfl) (Nat.le_of_ble_eq_true rfl) (fun E w9 hq => hq.elim) ?_
      rintro v9 w9 ⟨rfl, rfl⟩
      refine x_retz rfl (Nat.le_of_ble_eq_true rfl) (Nat.le_of_ble_eq_true rfl) rfl (by first | rfl | assumption | exact bI_01 _) ?_
      exact bad h _ rfl
    have f48 : ∀ (z5 z6 : Option Value), P = (false, p, dr1) → EX g mbOf (Ev g (d + 1)) (infoOf 30) k_X4_readField (fun v w' => v = some (.int (bI P.1)) ∧ ∃ cs, w' = cW w (udA F 1 (upd (F 1) 2 (if P.1 = true then -1 else nI P.2.1))) (udA A 1408 cs) L ∧ (P.1 = true → ∀ k, k < 64 → cs k = P.2.2 k ∧ (cs k = -1 ∨ ∃ v, v < 8 ∧ cs k = nI v))) noX w.1 (cW w (udA F 1 (upd (F 1) 2 (-1))) (udA A 1408 cs) L) 0 0 48 [some (.ref 1407), some (.ref 1), some (.int (nI row)), some (.int (nI col)), some (.int (nI p)), z5, z6] [] := by
      intro z5 z6 h
      refine x_al rfl rfl ?_
      refine x_il rfl rfl ?_
      refine x_call2 (c_failAt hn) rfl (Nat.le_of_ble_eq_true rfl) (Or.inl (by first | exact hn | assumption)) (rcv_at (cw_fs (by with_reducible exact sp_1) hn) (by decide) (by decide)) (Nat.le_of_ble_eq_true rfl) (Nat.le_of_ble_eq_true rfl) (fun E w9 hq => hq.elim) ?_
      rintro v9 w9 ⟨rfl, rfl⟩
      refine x_retz rfl (Nat.le_of_ble_eq_true rfl) (Nat.le_of_ble_eq_true rfl) rfl (by first | rfl | assumption | exact bI_01 _) ?_
      exact bad h _ rfl
    have q9 : EX g mbOf (Ev g (d + 1)) (infoOf 30) k_X4_readField (fun v w' => v = some (.int (bI P.1)) ∧ ∃ cs, w' = cW w (udA F 1 (upd (F 1) 2 (if P.1 = true then -1 else nI P.2.1))) (udA A 1408 cs) L ∧ (P.1 = true → ∀ k, k < 64 → cs k = P.2.2 k ∧ (cs k = -1 ∨ ∃ v, v < 8 ∧ cs k = nI v))) noX w.1 (cW w (udA F 1 (upd (F 1) 2 (-1))) (udA A 1408 cs) L) 0 0 9 [some (.ref 1407), some (.ref 1), some (.int (nI row)), some (.int (nI col)), some (.int (nI p)), z5, z6] [] := by
      refine x_il rfl rfl ?_
      refine x_al rfl rfl ?_
      refine x_getC rfl hn (by with_reducible exact sp_1) (by exact rfl) ?_
      rw [show udA F 1 (upd (F 1) 2 (-1)) 1 1 = nI en from h1]
      refine x_icgeN rfl (by omega) (fun c0 => ?_) (fun c0 => ?_)
      · refine x_il rfl rfl ?_
        refine x_c rfl ?_
        have epn : p = en := by omega
        have fin : ¬ (row = 7 ∧ col = 8) → EX g mbOf (Ev g (d + 1)) (infoOf 30) k_X4_readField (fun v w' => v = some (.int (bI P.1)) ∧ ∃ cs, w' = cW w (udA F 1 (upd (F 1) 2 (if P.1 = true then -1 else nI P.2.1))) (udA A 1408 cs) L ∧ (P.1 = true → ∀ k, k < 64 → cs k = P.2.2 k ∧ (cs k = -1 ∨ ∃ v, v < 8 ∧ cs k = nI v))) noX w.1 (cW w (udA F 1 (upd (F 1) 2 (-1))) (udA A 1408 cs) L) 0 0 70 [some (.ref 1407), some (.ref 1), some (.int (nI row)), some (.int (nI col)), some (.int (nI p)), z5, z6] [] := by
          intro h
          refine x_al rfl rfl ?_
          refine x_al rfl rfl ?_
          refine x_getC rfl hn (by with_reducible exact sp_1) (by exact rfl) ?_
          rw [show udA F 1 (upd (F 1) 2 (-1)) 1 1 = nI p from h1.trans (congrArg nI epn.symm)]
          refine x_call2 (c_failAt hn) rfl (Nat.le_of_ble_eq_true rfl) (Or.inl (by first | exact hn | assumption)) (rcv_at (cw_fs (by with_reducible exact sp_1) hn) (by decide) (by decide)) (Nat.le_of_ble_eq_true rfl) (Nat.le_of_ble_eq_true rfl) (fun E w9 hq => hq.elim) ?_
          rintro v9 w9 ⟨rfl, rfl⟩
          refine x_ifeq rfl (fun c => ?_) (fun c => absurd rfl c)
          refine x_c rfl ?_
          refine x_retz rfl (Nat.le_of_ble_eq_true rfl) (Nat.le_of_ble_eq_true rfl) rfl (by first | rfl | assumption | exact bI_01 _) ?_
          exact bad (hR.symm.trans (by rw [epn]; exact rst_end hr hc h)) _ rfl
        by_cases h7 : row = 7
        · refine x_icneN (y := 7) rfl (by omega) (fun e9 => absurd h7 e9) (fun e9 => ?_)
          refine x_il rfl rfl ?_
          refine x_c rfl ?_
          by_cases h8 : col = 8
          · refine x_iceqN (y := 8) rfl (by omega) (fun e9 => ?_) (fun e9 => absurd h8 e9)
            refine x_c rfl ?_
            refine x_go rfl ?_
            refine x_retz rfl (Nat.le_of_ble_eq_true rfl) (Nat.le_of_ble_eq_true rfl) rfl (by first | rfl | assumption | exact bI_01 _) ?_
            subst h7
            subst h8
            rw [epn, rst_full] at hR
            subst hR
            exact ⟨rfl, cs, rfl, fun _ k hk => hcs k (by omega)⟩
          · refine x_iceqN (y := 8) rfl (by omega) (fun e9 => absurd e9 h8) (fun e9 => ?_)
            exact fin (fun h => h8 h.2)
        · refine x_icneN (y := 7) rfl (by omega) (fun e9 => ?_) (fun e9 => absurd e9 h7)
          exact fin (fun h => h7 h.1)
      refine x_al rfl rfl ?_
      refine x_getC rfl hn (by with_reducible exact sp_1) (by exact rfl) ?_
      refine x_il rfl rfl ?_
      refine x_iaC rfl hn (by with_reducible exact sp_2) (by omega) ?_
      have hb := hB p c0
      rw [show udA A 1408 cs 2 p = nI (b p) from hb.2.1]
      have next : ∀ (row col : Nat) (dr1 cs : Nat → Int32) (z5 z6 : Option Value), row ≤ 7 → col ≤ 8 → rst t en row col (p + 1) dr1 = P → (∀ i, i < 8 * row + col → cs i = dr1 i ∧ (cs i = -1 ∨ ∃ v, v < 8 ∧ cs i = nI v)) → EX g mbOf (Ev g (d + 1)) (infoOf 30) k_X4_readField (fun v w' => v = some (.int (bI P.1)) ∧ ∃ cs, w' = cW w (udA F 1 (upd (F 1) 2 (if P.1 = true then -1 else nI P.2.1))) (udA A 1408 cs) L ∧ (P.1 = true → ∀ k, k < 64 → cs k = P.2.2 k ∧ (cs k = -1 ∨ ∃ v, v < 8 ∧ cs k = nI v))) noX w.1 (cW w (udA F 1 (upd (F 1) 2 (-1))) (udA A 1408 cs) L) 0 0 62 [some (.ref 1407), some (.ref 1), some (.int (nI row)), some (.int (nI col)), some (.int (nI p)), z5, z6] [] := by
        intro row col dr1 cs z5 z6 hr hc hR hcs
        refine x_inc1 (lo' := [_, _, _, _, _, _, _]) rfl rfl rfl ?_
        refine x_go rfl ?_
        exact ih c0 row col dr1 cs _ _ hr hc hR hcs
      refine x_is (lo' := [_, _, _, _, _, _, _]) rfl (Nat.le_of_ble_eq_true rfl) rfl ?_
      refine x_il rfl rfl ?_
      refine x_c rfl ?_
      refine x_icneN (y := 32) rfl (by omega) (fun c1 => ?_) (fun c1 => ?_)
      rotate_left
      · refine x_go rfl ?_
        exact next row col dr1 cs _ _ hr hc ((rst_bl hB hr c0 c1).symm.trans hR) hcs
      refine x_il rfl rfl ?_
      refine x_c rfl ?_
      refine x_icneN (y := 47) rfl (by omega) (fun c2 => ?_) (fun c2 => ?_)
      rotate_left
      · refine x_il rfl rfl ?_
        refine x_c rfl ?_
        refine x_icltN (y := 8) rfl (by omega) (fun c3 => ?_) (fun c3 => ?_)
        · skip
          exact f31 _ _ (hR.symm.trans (rst_bad hB hr c0 c1 (Or.inl ⟨c3, by unfold celK; omega⟩)))
        refine x_il rfl rfl ?_
        refine x_c rfl ?_
        refine x_icneN (y := 7) rfl (by omega) (fun c4 => ?_) (fun c4 => ?_)
        rotate_left
        · skip
          exact f31 _ _ (hR.symm.trans (rst_bad hB hr c0 c1 (Or.inr ⟨by omega, Or.inr c4⟩)))
        refine x_inc1 (lo' := [_, _, _, _, _, _, _]) rfl rfl rfl ?_
        refine x_c rfl ?_
        refine x_is (lo' := [_, _, _, _, _, _, _]) rfl (Nat.le_of_ble_eq_true rfl) rfl ?_
        refine x_go rfl ?_
        obtain rfl : col = 8 := by omega
        exact next (row + 1) 0 dr1 cs _ _ (by omega) (by omega) ((rst_st hB (by omega) c0 c2).symm.trans hR) (fun i hi => hcs i (by omega))
      refine x_il rfl rfl ?_
      refine x_call1 (c_directionBy hb.1) rfl (Nat.le_of_ble_eq_true rfl) (Or.inl (by first | exact hn | assumption)) trivial (Nat.le_of_ble_eq_true rfl) (Nat.le_of_ble_eq_true rfl) (fun E w9 hq => hq.elim) ?_
      rintro v9 w9 ⟨rfl, rfl⟩
      refine x_is (lo' := [_, _, _, _, _, _, _]) rfl (Nat.le_of_ble_eq_true rfl) rfl ?_
      refine x_il rfl rfl ?_
      refine x_c rfl ?_
      by_cases hk : celK (b p)
      · refine x_iceq rfl (fun e9 => absurd e9 (dirI_ok hk).1) (fun e9 => ?_)
        refine x_il rfl rfl ?_
        refine x_c rfl ?_
        refine x_icltN (y := 8) rfl (by omega) (fun c3 => ?_) (fun c3 => ?_)
        · refine x_al rfl rfl ?_
          refine x_getC rfl hn (by with_reducible exact pr_0 (by first | assumption | exact prA (by omega) | exact prD | exact prB (by assumption) (by omega))) (by exact rfl) ?_
          refine x_c rfl ?_
          refine x_il rfl rfl ?_
          refine x_mulN (x := 8) rfl ?_
          refine x_il rfl rfl ?_
          refine x_addN rfl ?_
          refine x_il rfl rfl ?_
          refine x_iasC rfl hn (by with_reducible exact pr_1 (by first | assumption | exact prA (by omega) | exact prD | exact prB (by assumption) (by omega))) (by omega) ?_
          refine x_inc1 (lo' := [_, _, _, _, _, _, _]) rfl rfl rfl ?_
          simp only [udA_t, udA_udA]
          refine next row (col + 1) (upd dr1 (8 * row + col) (dirI (b p))) (upd cs (8 * row + col) (dirI (b p))) _ _ hr (by omega) ((rst_cell hB hr c3 c0 hk).symm.trans hR) (fun i hi => ?_)
          by_cases ei : i = 8 * row + col
          · subst ei
            rw [upd_at, upd_at]
            exact ⟨rfl, (dirI_ok hk).2⟩
          · rw [upd_ne ei, upd_ne ei]
            exact hcs i (by omega)
        exact f48 _ _ (hR.symm.trans (rst_bad hB hr c0 c1 (Or.inr ⟨by omega, Or.inl c2⟩)))
      · refine x_iceq rfl (fun e9 => ?_) (fun e9 => absurd (dirI_no hk) e9)
        refine f48 _ _ (hR.symm.trans (rst_bad hB hr c0 c1 ?_))
        by_cases c3 : col < 8
        · exact Or.inl ⟨c3, hk⟩
        · exact Or.inr ⟨by omega, Or.inl c2⟩
    exact q9
  refine ev_X4_readField ?_ (Nat.le_of_ble_eq_true rfl)
  refine x_lo (lo' := [some (.ref 1407), some (.ref 1), none, none, none, none, none]) rfl ?_
  refine x_al rfl rfl ?_
  refine x_c rfl ?_
  refine x_putC rfl hn (by with_reducible exact sp_1) (by exact rfl) (by first | rfl | exact nr_z (by assumption)) (by first | rfl | exact fi_z _) ?_
  refine x_c rfl ?_
  refine x_is (lo' := [_, _, _, _, _, _, _]) rfl (Nat.le_of_ble_eq_true rfl) rfl ?_
  refine x_c rfl ?_
  refine x_is (lo' := [_, _, _, _, _, _, _]) rfl (Nat.le_of_ble_eq_true rfl) rfl ?_
  refine x_c rfl ?_
  refine x_is (lo' := [_, _, _, _, _, _, _]) rfl (Nat.le_of_ble_eq_true rfl) rfl ?_
  have e := loop 0 (Nat.zero_le _) 0 0 dr (A 1408) none none (by decide) (by decide) hP0 (fun i hi => absurd hi (Nat.not_lt_zero _))
  rw [udA_self] at e
  exact e
end CALLS
