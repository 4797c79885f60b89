/-! the class reads tokens; cw_ -/
def TkA (F A : Nat → Nat → Int32) (t : Nat → Int32) (b : Nat → Nat) (en n : Nat) : Prop := F 1 1 = nI en ∧ F 1 6 = nI n ∧ wS t en (PP t b en n) = en ∧ n < 1000 ∧ ∀ i, i < n → wS t en (PP t b en i) < en ∧ A 3 i = tkF t b en (wS t en (PP t b en i)) ∧ A 4 i = nI (wS t en (PP t b en i)) ∧ A 5 i = vaF t b en (wS t en (PP t b en i))
theorem TkA.keep {F A F' A' : Nat → Nat → Int32} {t : Nat → Int32} {b : Nat → Nat} {en n : Nat} (h : TkA F A t b en n) (h1 : F' 1 1 = F 1 1) (h6 : F' 1 6 = F 1 6) (hA : ∀ q, q = 3 ∨ q = 4 ∨ q = 5 → A' q = A q) : TkA F' A' t b en n := ⟨h1.trans h.1, h6.trans h.2.1, h.2.2.1, h.2.2.2.1, fun i hi => by
  rw [hA 3 (by omega), hA 4 (by omega), hA 5 (by omega)]
  exact h.2.2.2.2 i hi⟩
/-- the token at a sign, 21 at the end -/
def tokV (t : Nat → Int32) (b : Nat → Nat) (en s : Nat) : Int32 := if s < en then tkF t b en s else 21
theorem fiW_val {t : Nat → Int32} {e s : Nat} : ∀ (ks : List Nat) i0 j, fiW t e s ks i0 = some j → ∃ i k, j = i0 + i ∧ ks[i]? = some k ∧ wdB t e s k = true := by
  intro ks
  induction ks with
  | nil => intro i0 j h; cases h
  | cons x ks ih =>
    intro i0 j h
    unfold fiW at h
    by_cases c : wdB t e s x = true
    · rw [if_pos c] at h
      cases h
      exact ⟨0, x, rfl, rfl, c⟩
    · rw [if_neg c] at h
      obtain ⟨i, k, h1, h2, h3⟩ := ih _ _ h
      exact ⟨i + 1, k, by omega, h2, h3⟩
theorem tx_inj : ∀ k k' : Fin 20, 1 ≤ k.1 → 1 ≤ k'.1 → txL k.1 = txL k'.1 → k = k' := by decide +kernel
theorem WL_inj : ∀ i i' : Fin 19, WL.getD i.1 0 = WL.getD i'.1 0 → i = i' := by decide +kernel
theorem WL_rng : ∀ i : Fin 19, 1 ≤ WL.getD i.1 0 ∧ WL.getD i.1 0 < 20 ∧ 1 ≤ txN (WL.getD i.1 0) := by decide +kernel
/-- letters are one word at most -/
theorem wd_uniq {t : Nat → Int32} {e s k k' : Nat} (hk : 1 ≤ k ∧ k < 20) (hk' : 1 ≤ k' ∧ k' < 20) (h : wdB t e s k = true) (h' : wdB t e s k' = true) : k = k' := by
  obtain ⟨a1, a2⟩ := wd_iff.mp h
  obtain ⟨b1, b2⟩ := wd_iff.mp h'
  have hl : txL k = txL k' := by
    refine List.ext_getElem (show txN k = txN k' by omega) fun i h1 h2 => ?_
    have c1 := a2 i h1
    have c2 := b2 i h2
    have l1 := tx_lt (k := k) (j := i) hk.2
    have l2 := tx_lt (k := k') (j := i) hk'.2
    have c3 : (txL k).getD i 0 = (txL k').getD i 0 := (nI_eq (by omega) (by omega)).mp (c1.symm.trans c2)
    rw [List.getD_eq_getElem?_getD, List.getD_eq_getElem?_getD, List.getElem?_eq_getElem h1, List.getElem?_eq_getElem h2] at c3
    exact c3
  exact congrArg Fin.val (tx_inj ⟨k, hk.2⟩ ⟨k', hk'.2⟩ hk.1 hk'.1 hl)
theorem wl_uniq {t : Nat → Int32} {e s i i' : Nat} (hi : i < 19) (hi' : i' < 19) (h : wdB t e s (WL.getD i 0) = true) (h' : wdB t e s (WL.getD i' 0) = true) : i = i' := by
  obtain ⟨a1, a2, _⟩ := WL_rng ⟨i, hi⟩
  obtain ⟨b1, b2, _⟩ := WL_rng ⟨i', hi'⟩
  exact congrArg Fin.val (WL_inj ⟨i, hi⟩ ⟨i', hi'⟩ (wd_uniq ⟨a1, a2⟩ ⟨b1, b2⟩ h h'))
theorem fiW_WL {t : Nat → Int32} {e s i : Nat} (hi : i < 19) : fiW t e s WL 0 = some i ↔ wdB t e s (WL.getD i 0) = true := by
  constructor
  · intro h
    obtain ⟨i', k, h1, h2, h3⟩ := fiW_val WL 0 i h
    obtain rfl : i = i' := by omega
    rw [← (WL_get h2).2]
    exact h3
  · intro h
    have := fiW_at WL 0 i _ (WL_at hi) (fun i' hi' k' hk' h3 => by
      obtain ⟨g1, g2⟩ := WL_get hk'
      rw [g2] at h3
      have := wl_uniq g1 hi h3 h
      omega) h
    rw [Nat.zero_add] at this
    exact this
/-- a row of words within the class's -/
theorem fiW_sub {t : Nat → Int32} {e s i : Nat} (ks : List Nat) (off : Nat) (hks : ∀ j, j < ks.length → ks[j]? = some (WL.getD (off + j) 0)) (ho : off + ks.length ≤ 19) (hi : i < 19) (h : wdB t e s (WL.getD i 0) = true) : fiW t e s ks 0 = if off ≤ i ∧ i < off + ks.length then some (i - off) else none := by
  have hu : ∀ j k', ks[j]? = some k' → wdB t e s k' = true → off + j = i ∧ j < ks.length := fun j k' h1 h2 => by
    have hl : j < ks.length := by
      rcases Nat.lt_or_ge j ks.length with h3 | h3
      · exact h3
      · rw [List.getElem?_eq_none h3] at h1; cases h1
    rw [hks j hl] at h1
    cases h1
    exact ⟨wl_uniq (by omega) hi h2 h, hl⟩
  by_cases c : off ≤ i ∧ i < off + ks.length
  · rw [if_pos c, fiW_at ks 0 (i - off) (WL.getD i 0) (by rw [hks _ (by omega), show off + (i - off) = i by omega]) (fun i' hi' k' hk' h3 => by have := hu i' k' hk' h3; omega) h, Nat.zero_add]
  · rw [if_neg c]
    exact fiW_no ks 0 (fun j k' hk' h3 => by have := hu j k' hk' h3; omega)
theorem fiW_sub0 {t : Nat → Int32} {e s : Nat} (ks : List Nat) (off : Nat) (hks : ∀ j, j < ks.length → ks[j]? = some (WL.getD (off + j) 0)) (ho : off + ks.length ≤ 19) (h : ∀ i, i < 19 → ¬ wdB t e s (WL.getD i 0) = true) : fiW t e s ks 0 = none := by
  refine fiW_no ks 0 (fun j k' hk' h3 => ?_)
  have hl : j < ks.length := by
    rcases Nat.lt_or_ge j ks.length with h3 | h3
    · exact h3
    · rw [List.getElem?_eq_none h3] at hk'; cases hk'
  rw [hks j hl] at hk'
  cases hk'
  exact h _ (by omega) h3
theorem ks_a : ∀ j, j < [1, 2, 3, 4, 5, 6].length → ([1, 2, 3, 4, 5, 6] : List Nat)[j]? = some (WL.getD (0 + j) 0) := by
  have : ∀ j : Fin 6, ([1, 2, 3, 4, 5, 6] : List Nat)[j.1]? = some (WL.getD (0 + j.1) 0) := by decide
  exact fun j hj => this ⟨j, hj⟩
theorem ks_b : ∀ j, j < [9, 10, 11, 12].length → ([9, 10, 11, 12] : List Nat)[j]? = some (WL.getD (10 + j) 0) := by
  have : ∀ j : Fin 4, ([9, 10, 11, 12] : List Nat)[j.1]? = some (WL.getD (10 + j.1) 0) := by decide
  exact fun j hj => this ⟨j, hj⟩
theorem ks_c : ∀ j, j < [13, 14, 15, 16, 17].length → ([13, 14, 15, 16, 17] : List Nat)[j]? = some (WL.getD (14 + j) 0) := by
  have : ∀ j : Fin 5, ([13, 14, 15, 16, 17] : List Nat)[j.1]? = some (WL.getD (14 + j.1) 0) := by decide
  exact fun j hj => this ⟨j, hj⟩
section K
variable {t c : Nat → Int32} {en : Nat} {b : Nat → Nat}
/-- what a token says of the letters there: it is a word, or there is none -/
theorem tok_cases (h : TpR t c en b) {p : Nat} (hp : p ≤ en) : (∃ i, i < 19 ∧ tokV t b en (wS t en p) = nI i ∧ wdB t (wE t en p) (wS t en p) (WL.getD i 0) = true ∧ wS t en p < en ∧ nxF t b en (wS t en p) = wE t en p) ∨ ∃ k, 20 ≤ k ∧ k < 400 ∧ tokV t b en (wS t en p) = nI k ∧ ∀ i, i < 19 → ¬ wdB t (wE t en p) (wS t en p) (WL.getD i 0) = true := by
  have hs := wS_le (t := t) hp
  have no0 : wE t en p = wS t en p → ∀ i, i < 19 → ¬ wdB t (wE t en p) (wS t en p) (WL.getD i 0) = true := fun e i hi h2 => by
    have h3 := wd_len h2
    have := (WL_rng ⟨i, hi⟩).2.2
    have : 1 ≤ txN (WL.getD i 0) := this
    omega
  unfold tokV
  rcases Nat.lt_or_ge (wS t en p) en with l | l
  · rw [if_pos l]
    unfold tkF
    by_cases hl : 97 ≤ b (wS t en p) ∧ b (wS t en p) ≤ 122
    · rw [if_pos hl]
      show (∃ i, i < 19 ∧ nI ((fiW t (wE t en p) (wS t en p) WL 0).getD 22) = nI i ∧ _) ∨ _
      cases e : fiW t (wE t en p) (wS t en p) WL 0 with
      | some i =>
        have h2 := (fiW_s _ _ _ e).2.2
        have hi : i < 19 := by have hl : WL.length = 19 := rfl; omega
        exact Or.inl ⟨i, hi, rfl, (fiW_WL hi).mp e, l, if_pos hl⟩
      | none =>
        refine Or.inr ⟨22, by omega, by omega, ?_, fun i hi h2 => ?_⟩
        · rfl
        · rw [(fiW_WL hi).mpr h2] at e; cases e
    · rw [if_neg hl]
      have hwe : wE t en p = wS t en p := runs_f (fun h3 => hl ((h.rng l (x := 97) (y := 122) (by omega) (by omega)).mp h3.2))
      by_cases hd : 48 ≤ b (wS t en p) ∧ b (wS t en p) ≤ 57
      · rw [if_pos hd]
        exact Or.inr ⟨20, by omega, by omega, rfl, no0 hwe⟩
      · rw [if_neg hd]
        have := (h _ l).1
        exact Or.inr ⟨100 + b (wS t en p), by omega, by omega, rfl, no0 hwe⟩
  · rw [if_neg (by omega)]
    have hwe : wE t en p = wS t en p := runs_f (fun h3 => by have h4 : wS t en p < en := h3.1; omega)
    exact Or.inr ⟨21, by omega, by omega, rfl, no0 hwe⟩
theorem tok_word (h : TpR t c en b) {p i : Nat} (hp : p ≤ en) (hi : i < 19) : tokV t b en (wS t en p) = nI i ↔ wdB t (wE t en p) (wS t en p) (WL.getD i 0) = true := by
  rcases tok_cases h hp with ⟨i', h1, h2, h3, _⟩ | ⟨k, h1, h2, h3, h4⟩
  · rw [h2, nI_eq (by omega) (by omega)]
    constructor
    · rintro rfl; exact h3
    · intro h5; exact wl_uniq h1 hi h3 h5
  · rw [h3, nI_eq (by omega) (by omega)]
    constructor
    · intro h5; omega
    · intro h5; exact absurd h5 (h4 i hi)
theorem tok_sign (h : TpR t c en b) {p k : Nat} (hp : p ≤ en) (hk : k < 128) (h1 : ¬ (97 ≤ k ∧ k ≤ 122)) (h2 : ¬ (48 ≤ k ∧ k ≤ 57)) : tokV t b en (wS t en p) = nI (100 + k) ↔ sgB t en p (nI k) = true := by
  rw [sgB_b h hk]
  unfold tokV
  by_cases l : wS t en p < en
  · rw [if_pos l]
    have hb := (h _ l).1
    unfold tkF
    by_cases hl : 97 ≤ b (wS t en p) ∧ b (wS t en p) ≤ 122
    · rw [if_pos hl]
      constructor
      · intro h3
        exfalso
        cases e : fiW t (runs t en 97 122 (wS t en p)) (wS t en p) WL 0 with
        | some i =>
          rw [e] at h3
          have h4 := (fiW_s _ _ _ e).2.2
          have hl : WL.length = 19 := rfl
          have := (nI_eq (a := i) (b := 100 + k) (by omega) (by omega)).mp h3
          omega
        | none =>
          rw [e] at h3
          have := (nI_eq (a := 22) (b := 100 + k) (by omega) (by omega)).mp h3
          omega
      · intro h3; omega
    · rw [if_neg hl]
      by_cases hd : 48 ≤ b (wS t en p) ∧ b (wS t en p) ≤ 57
      · rw [if_pos hd]
        constructor
        · intro h3
          have := (nI_eq (a := 20) (b := 100 + k) (by omega) (by omega)).mp h3
          omega
        · intro h3; omega
      · rw [if_neg hd, nI_eq (by omega) (by omega)]
        constructor
        · intro h3; exact ⟨l, by omega⟩
        · intro h3; omega
  · rw [if_neg l]
    constructor
    · intro h3
      have := (nI_eq (a := 21) (b := 100 + k) (by omega) (by omega)).mp h3
      omega
    · intro h3; exact absurd h3.1 l
/-- a sign ends just behind it -/
theorem nx_sign (h : TpR t c en b) {p k : Nat} (hk : k < 128) (h1 : ¬ (97 ≤ k ∧ k ≤ 122)) (h2 : ¬ (48 ≤ k ∧ k ≤ 57)) (hs : sgB t en p (nI k) = true) : nxF t b en (wS t en p) = wS t en p + 1 := by
  have := (sgB_b h hk).mp hs
  unfold nxF
  rw [if_neg (by omega), if_neg (by omega)]
theorem tok_end (h : TpR t c en b) {p : Nat} (hp : p ≤ en) : tokV t b en (wS t en p) = 21 ↔ wS t en p = en := by
  have hs := wS_le (t := t) hp
  constructor
  · intro h2
    rcases Nat.lt_or_ge (wS t en p) en with l | l
    · exfalso
      have hb := (h _ l).1
      unfold tokV tkF at h2
      rw [if_pos l] at h2
      by_cases hl : 97 ≤ b (wS t en p) ∧ b (wS t en p) ≤ 122
      · rw [if_pos hl] at h2
        cases e : fiW t (runs t en 97 122 (wS t en p)) (wS t en p) WL 0 with
        | some i =>
          rw [e] at h2
          have h4 := (fiW_s _ _ _ e).2.2
          have hl : WL.length = 19 := rfl
          have := (nI_eq (a := i) (b := 21) (by omega) (by omega)).mp h2
          omega
        | none =>
          rw [e] at h2
          exact absurd h2 (show ¬ nI 22 = 21 by decide)
      · rw [if_neg hl] at h2
        by_cases hd : 48 ≤ b (wS t en p) ∧ b (wS t en p) ≤ 57
        · rw [if_pos hd] at h2
          exact absurd h2 (by decide)
        · rw [if_neg hd] at h2
          have := (nI_eq (a := 100 + b (wS t en p)) (b := 21) (by omega) (by omega)).mp h2
          omega
    · omega
  · intro h2
    unfold tokV
    rw [if_neg (by omega)]
end K
section CALLS
variable {g : aG} {d : Nat} {w : aW} {F A : Nat → Nat → Int32} {L : Nat → Int64} {t : Nat → Int32} {b : Nat → Nat} {en n j p : Nat}
theorem c_token (hT : TkA F A t b en n) (h7 : F 1 7 = nI j) (hj : j ≤ n) (hp : wS t en (PP t b en j) = wS t en p) (h4 : n ≤ 400) (hn : w.1 = N0) : Ev g (d + 1) 105 [.ref 1] (cW w F A L) (RetQ (tokV t b en (wS t en p)) (cW w F A L)) noX := by
  obtain ⟨e1, e6, he, _, hi⟩ := hT
  unfold tokV
  refine ev_X9_token ?_ (Nat.le_of_ble_eq_true rfl)
  refine x_lo (lo' := [some (.ref 1)]) rfl ?_
  refine x_al rfl rfl ?_
  refine x_getC rfl hn (by with_reducible exact sp_1) (by exact rfl) ?_
  rw [h7]
  refine x_al rfl rfl ?_
  refine x_getC rfl hn (by with_reducible exact sp_1) (by exact rfl) ?_
  rw [e6]
  refine x_icgeN rfl (by omega) (fun c0 => ?_) (fun c0 => ?_)
  · refine x_c rfl ?_
    refine x_reti rfl (Nat.le_of_ble_eq_true rfl) (Nat.le_of_ble_eq_true rfl) rfl ?_
    obtain rfl : j = n := by omega
    rw [if_neg (by omega)]
    exact ⟨rfl, rfl⟩
  refine x_al rfl rfl ?_
  refine x_getC rfl hn (by with_reducible exact sp_1) (by exact rfl) ?_
  refine x_al rfl rfl ?_
  refine x_getC rfl hn (by with_reducible exact sp_1) (by exact rfl) ?_
  rw [h7]
  refine x_iaC rfl hn (by with_reducible exact sp_3) (by omega) ?_
  refine x_go rfl ?_
  refine x_reti rfl (Nat.le_of_ble_eq_true rfl) (Nat.le_of_ble_eq_true rfl) rfl ?_
  obtain ⟨i1, i2, i3, i4⟩ := hi j c0
  rw [hp] at i1 i2
  rw [if_pos i1]
  exact ⟨by rw [i2], rfl⟩
theorem c_takeT {x : Int32} (hT : TkA F A t b en n) (h7 : F 1 7 = nI j) (hj : j ≤ n) (hp : wS t en (PP t b en j) = wS t en p) (h4 : n ≤ 400) (hn : w.1 = N0) : Ev g (d + 2) 106 [.ref 1, .int x] (cW w F A L) (fun v w' => (tokV t b en (wS t en p) = x ∧ v = some (.int 1) ∧ w' = cW w (udA F 1 (upd (F 1) 7 (nI (j + 1)))) A L) ∨ (¬ tokV t b en (wS t en p) = x ∧ v = some (.int 0) ∧ w' = cW w F A L)) noX := by
  refine ev_X9_take ?_ (Nat.le_of_ble_eq_true rfl)
  refine x_lo (lo' := [some (.ref 1), some (.int x)]) rfl ?_
  refine x_al rfl rfl ?_
  refine x_call1 (c_token hT h7 hj hp h4 hn) rfl (Nat.le_of_ble_eq_true rfl) (Or.inl (by first | exact hn | assumption)) (rcv_at (cw_fs (by with_reducible exact sp_1) hn) (by decide) (by decide)) (Nat.le_of_ble_eq_true rfl) (Nat.le_of_ble_eq_true rfl) (fun E w9 hq => hq.elim) ?_
  rintro v9 w9 ⟨rfl, rfl⟩
  refine x_il rfl rfl ?_
  refine x_iceq rfl (fun c0 => ?_) (fun c0 => ?_)
  · refine x_al rfl rfl ?_
    refine x_dup rfl rfl ?_
    refine x_getC rfl hn (by with_reducible exact sp_1) (by exact rfl) ?_
    rw [h7]
    refine x_c rfl ?_
    refine x_addN (y := 1) rfl ?_
    refine x_putC rfl hn (by with_reducible exact sp_1) (by exact rfl) (by first | rfl | exact nr_z (by assumption)) (by first | rfl | exact fi_z _) ?_
    refine x_c rfl ?_
    refine x_retz rfl (Nat.le_of_ble_eq_true rfl) (Nat.le_of_ble_eq_true rfl) rfl (by first | rfl | assumption | exact bI_01 _) ?_
    exact Or.inl ⟨c0, rfl, rfl⟩
  refine x_c rfl ?_
  refine x_retz rfl (Nat.le_of_ble_eq_true rfl) (Nat.le_of_ble_eq_true rfl) rfl (by first | rfl | assumption | exact bI_01 _) ?_
  exact Or.inr ⟨c0, rfl, rfl⟩
theorem c_fail (hT : TkA F A t b en n) (h7 : F 1 7 = nI j) (hj : j ≤ n) (hp : wS t en (PP t b en j) = wS t en p) (h4 : n ≤ 400) (hn : w.1 = N0) : Ev g (d + 1) 96 [.ref 1] (cW w F A L) (RetQ 0 (cW w (udA F 1 (upd (F 1) 2 (nI (wS t en p)))) A L)) noX := by
  obtain ⟨e1, e6, he, _, hi⟩ := hT
  refine ev_X9_fail ?_ (Nat.le_of_ble_eq_true rfl)
  refine x_lo (lo' := [some (.ref 1)]) rfl ?_
  refine x_al rfl rfl ?_
  refine x_al rfl rfl ?_
  refine x_getC rfl hn (by with_reducible exact sp_1) (by exact rfl) ?_
  rw [h7]
  refine x_al rfl rfl ?_
  refine x_getC rfl hn (by with_reducible exact sp_1) (by exact rfl) ?_
  rw [e6]
  refine x_icgeN rfl (by omega) (fun c0 => ?_) (fun c0 => ?_)
  · refine x_al rfl rfl ?_
    refine x_getC rfl hn (by with_reducible exact sp_1) (by exact rfl) ?_
    obtain rfl : j = n := by omega
    have ew : wS t en p = en := by rw [← hp, he]
    refine x_eq (e1.trans (congrArg nI ew.symm)) ?_
    refine x_putC rfl hn (by with_reducible exact sp_1) (by exact rfl) (by first | rfl | exact nr_z (by assumption)) (by first | rfl | exact fi_z _) ?_
    refine x_c rfl ?_
    refine x_retz rfl (Nat.le_of_ble_eq_true rfl) (Nat.le_of_ble_eq_true rfl) rfl (by first | rfl | assumption | exact bI_01 _) ?_
    exact ⟨rfl, rfl⟩
  refine x_al rfl rfl ?_
  refine x_getC rfl hn (by with_reducible exact sp_1) (by exact rfl) ?_
  refine x_al rfl rfl ?_
  refine x_getC rfl hn (by with_reducible exact sp_1) (by exact rfl) ?_
  rw [h7]
  refine x_iaC rfl hn (by with_reducible exact sp_4) (by omega) ?_
  refine x_go rfl ?_
  obtain ⟨i1, i2, i3, i4⟩ := hi j c0
  rw [i3, hp]
  refine x_putC rfl hn (by with_reducible exact sp_1) (by exact rfl) (by first | rfl | exact nr_z (by assumption)) (by first | rfl | exact fi_z _) ?_
  refine x_c rfl ?_
  refine x_retz rfl (Nat.le_of_ble_eq_true rfl) (Nat.le_of_ble_eq_true rfl) rfl (by first | rfl | assumption | exact bI_01 _) ?_
  exact ⟨rfl, rfl⟩
theorem c_emit {u : Nat} {x y z : Int32} (h2 : F 1414 2 = nI u) (hu : u < 400) (hn : w.1 = N0) : Ev g (d + 1) 50 [.ref 1414, .int x, .int y, .int z] (cW w F A L) (RetQ 1 (cW w (udA F 1414 (upd (F 1414) 2 (nI (u + 1)))) (udA A 1419 (upd (A 1419) u (x ||| y <<< ((3 : Int32) &&& 31) ||| z <<< ((6 : Int32) &&& 31)))) L)) noX := by
  refine ev_X5_emit ?_ (Nat.le_of_ble_eq_true rfl)
  refine x_lo (lo' := [some (.ref 1414), some (.int x), some (.int y), some (.int z)]) rfl ?_
  refine x_al rfl rfl ?_
  refine x_getC rfl hn (by with_reducible exact te_0 (by first | assumption | exact teA (by omega) | exact teN | exact teD | exact te_b (by assumption) | exact teB (by assumption) (by omega))) (by exact rfl) ?_
  rw [h2]
  refine x_al rfl rfl ?_
  refine x_getC rfl hn (by with_reducible exact te_0 (by first | assumption | exact teA (by omega) | exact teN | exact teD | exact te_b (by assumption) | exact teB (by assumption) (by omega))) (by exact rfl) ?_
  refine x_lenC rfl hn (by with_reducible exact te_5 (by first | assumption | exact teA (by omega) | exact teN | exact teD | exact te_b (by assumption) | exact teB (by assumption) (by omega))) ?_
  refine x_icltN rfl (by omega) (fun e9 => ?_) (fun e9 => absurd e9 (by omega))
  refine x_al rfl rfl ?_
  refine x_getC rfl hn (by with_reducible exact te_0 (by first | assumption | exact teA (by omega) | exact teN | exact teD | exact te_b (by assumption) | exact teB (by assumption) (by omega))) (by exact rfl) ?_
  refine x_al rfl rfl ?_
  refine x_getC rfl hn (by with_reducible exact te_0 (by first | assumption | exact teA (by omega) | exact teN | exact teD | exact te_b (by assumption) | exact teB (by assumption) (by omega))) (by exact rfl) ?_
  rw [h2]
  refine x_il rfl rfl ?_
  refine x_il rfl rfl ?_
  refine x_c rfl ?_
  refine x_shl rfl ?_
  refine x_or rfl ?_
  refine x_il rfl rfl ?_
  refine x_c rfl ?_
  refine x_shl rfl ?_
  refine x_or rfl ?_
  refine x_iasC rfl hn (by with_reducible exact te_5 (by first | assumption | exact teA (by omega) | exact teN | exact teD | exact te_b (by assumption) | exact teB (by assumption) (by omega))) (by omega) ?_
  refine x_al rfl rfl ?_
  refine x_dup rfl rfl ?_
  refine x_getC rfl hn (by with_reducible exact te_0 (by first | assumption | exact teA (by omega) | exact teN | exact teD | exact te_b (by assumption) | exact teB (by assumption) (by omega))) (by exact rfl) ?_
  rw [h2]
  refine x_c rfl ?_
  refine x_addN (y := 1) rfl ?_
  refine x_putC rfl hn (by with_reducible exact te_0 (by first | assumption | exact teA (by omega) | exact teN | exact teD | exact te_b (by assumption) | exact teB (by assumption) (by omega))) (by exact rfl) (by first | rfl | exact nr_z (by assumption)) (by first | rfl | exact fi_z _) ?_
  refine x_c rfl ?_
  refine x_retz rfl (Nat.le_of_ble_eq_true rfl) (Nat.le_of_ble_eq_true rfl) rfl (by first | rfl | assumption | exact bI_01 _) ?_
  exact ⟨rfl, rfl⟩
theorem pos_next (hT : TkA F A t b en n) (hj : j ≤ n) (hp : wS t en (PP t b en j) = wS t en p) (hl : wS t en p < en) : j + 1 ≤ n ∧ PP t b en (j + 1) = nxF t b en (wS t en p) := by
  refine ⟨?_, ?_⟩
  · rcases Nat.lt_or_ge j n with h | h
    · exact h
    · obtain rfl : j = n := by omega
      have := hT.2.2.1
      omega
  · show nxF t b en (wS t en (PP t b en j)) = _
    rw [hp]
theorem pos_word {c : Nat → Int32} {i : Nat} (hB : TpR t c en b) (hT : TkA F A t b en n) (hj : j ≤ n) (hp : wS t en (PP t b en j) = wS t en p) (hpe : p ≤ en) (hi : i < 19) (hw : wdB t (wE t en p) (wS t en p) (WL.getD i 0) = true) : j + 1 ≤ n ∧ wS t en (PP t b en (j + 1)) = wS t en (wE t en p) := by
  rcases tok_cases hB hpe with ⟨i', _, _, _, h1, h2⟩ | ⟨k, _, _, _, h4⟩
  · obtain ⟨a1, a2⟩ := pos_next hT hj hp h1
    exact ⟨a1, by rw [a2, h2]⟩
  · exact absurd hw (h4 i hi)
theorem pos_sign {c : Nat → Int32} {k : Nat} (hB : TpR t c en b) (hT : TkA F A t b en n) (hj : j ≤ n) (hp : wS t en (PP t b en j) = wS t en p) (hk : k < 128) (h1 : ¬ (97 ≤ k ∧ k ≤ 122)) (h2 : ¬ (48 ≤ k ∧ k ≤ 57)) (hs : sgB t en p (nI k) = true) : j + 1 ≤ n ∧ wS t en (PP t b en (j + 1)) = wS t en (wS t en p + 1) := by
  obtain ⟨a1, a2⟩ := pos_next hT hj hp ((sgB_b hB hk).mp hs).1
  exact ⟨a1, by rw [a2, nx_sign hB hk h1 h2 hs]⟩
theorem numR_ok {s : Nat} {lo hi : Int32} (h : ¬ numR t en s lo hi < 0) : lo ≤ numR t en s lo hi ∧ numR t en s lo hi ≤ hi := by
  unfold numR at h ⊢
  by_cases c : runs t en 48 57 s = s ∨ 4 < runs t en 48 57 s - s ∨ num t en s s 0 < lo ∨ hi < num t en s s 0
  · rw [if_pos c] at h; exact absurd (show (-1 : Int32) < 0 by decide) h
  · rw [if_neg c]
    exact ⟨Int32.not_lt.mp (fun h => c (Or.inr (Or.inr (Or.inl h)))), Int32.not_lt.mp (fun h => c (Or.inr (Or.inr (Or.inr h))))⟩
theorem c_takeNumber {c : Nat → Int32} {lo hi : Int32} (hB : TpR t c en b) (hT : TkA F A t b en n) (h7 : F 1 7 = nI j) (hj : j ≤ n) (hp : wS t en (PP t b en j) = wS t en p) (hpe : p ≤ en) (h4 : n ≤ 400) (hlo : 0 ≤ lo) (hn : w.1 = N0) : Ev g (d + 2) 107 [.ref 1, .int lo, .int hi] (cW w F A L) (fun v w' => (numR t en (wS t en p) lo hi < 0 ∧ v = some (.int (-1)) ∧ w' = cW w (udA F 1 (upd (F 1) 2 (nI (wS t en p)))) A L) ∨ (¬ numR t en (wS t en p) lo hi < 0 ∧ v = some (.int (numR t en (wS t en p) lo hi)) ∧ (j + 1 ≤ n ∧ wS t en (PP t b en (j + 1)) = wS t en (runs t en 48 57 (wS t en p))) ∧ w' = cW w (udA F 1 (upd (F 1) 7 (nI (j + 1)))) A L)) noX := by
  have bad : numR t en (wS t en p) lo hi < 0 → EX g mbOf (Ev g (d + 1)) (infoOf 107) k_X9_takeNumber (fun v w' => (numR t en (wS t en p) lo hi < 0 ∧ v = some (.int (-1)) ∧ w' = cW w (udA F 1 (upd (F 1) 2 (nI (wS t en p)))) A L) ∨ (¬ numR t en (wS t en p) lo hi < 0 ∧ v = some (.int (numR t en (wS t en p) lo hi)) ∧ (j + 1 ≤ n ∧ wS t en (PP t b en (j + 1)) = wS t en (runs t en 48 57 (wS t en p))) ∧ w' = cW w (udA F 1 (upd (F 1) 7 (nI (j + 1)))) A L)) noX w.1 (cW w F A L) 0 0 18 [some (.ref 1), some (.int lo), some (.int hi)] [] := by
    intro h
    refine x_al rfl rfl ?_
    refine x_call1 (c_fail hT h7 hj hp h4 hn) rfl (Nat.le_of_ble_eq_true rfl) (Or.inl (by first | exact hn | assumption)) (rcv_at (cw_fs (by with_reducible exact sp_1) hn) (by decide) (by decide)) (Nat.le_of_ble_eq_true rfl) (Nat.le_of_ble_eq_true rfl) (fun E w9 hq => hq.elim) ?_
    rintro v9 w9 ⟨rfl, rfl⟩
    refine x_pop rfl rfl ?_
    refine x_c rfl ?_
    refine x_reti rfl (Nat.le_of_ble_eq_true rfl) (Nat.le_of_ble_eq_true rfl) rfl ?_
    exact Or.inl ⟨h, rfl, rfl⟩
  refine ev_X9_takeNumber ?_ (Nat.le_of_ble_eq_true rfl)
  refine x_lo (lo' := [some (.ref 1), some (.int lo), some (.int hi)]) rfl ?_
  refine x_al rfl rfl ?_
  refine x_call1 (c_token hT h7 hj hp h4 hn) rfl (Nat.le_of_ble_eq_true rfl) (Or.inl (by first | exact hn | assumption)) (rcv_at (cw_fs (by with_reducible exact sp_1) hn) (by decide) (by decide)) (Nat.le_of_ble_eq_true rfl) (Nat.le_of_ble_eq_true rfl) (fun E w9 hq => hq.elim) ?_
  rintro v9 w9 ⟨rfl, rfl⟩
  refine x_c rfl ?_
  by_cases hl : wS t en p < en
  rotate_left
  · have e1 : tokV t b en (wS t en p) = 21 := if_neg hl
    rw [e1]
    refine x_icne rfl (fun e9 => ?_) (fun e9 => absurd e9 (by decide))
    refine bad ?_
    unfold numR
    rw [if_pos (Or.inl (runs_f (fun h => hl h.1)))]
    decide
  have hb := (hB _ hl).1
  have etk : tokV t b en (wS t en p) = tkF t b en (wS t en p) := if_pos hl
  rw [etk]
  by_cases hd : 48 ≤ b (wS t en p) ∧ b (wS t en p) ≤ 57
  rotate_left
  · refine x_icne rfl (fun e9 => ?_) (fun e9 => absurd ((tk_20 hb).mp e9) hd)
    refine bad ?_
    unfold numR
    rw [if_pos (Or.inl (show runs t en 48 57 (wS t en p) = wS t en p from runs_f (fun h => hd ((hB.rng hl (x := 48) (y := 57) (by omega) (by omega)).mp h.2))))]
    decide
  obtain ⟨a1, a2⟩ := pos_next hT hj hp hl
  have hnx : nxF t b en (wS t en p) = runs t en 48 57 (wS t en p) := by
    unfold nxF
    rw [if_neg (by omega), if_pos hd]
  have hgt : ¬ runs t en 48 57 (wS t en p) = wS t en p := by
    have := runs_lt (t := t) (en := en) (x := 48) (y := 57) (p := wS t en p) ⟨hl, (hB.rng hl (x := 48) (y := 57) (by omega) (by omega)).mpr hd⟩
    omega
  have hv : A 5 j = if 4 < runs t en 48 57 (wS t en p) - wS t en p then -1 else num t en (wS t en p) (wS t en p) 0 := by
    rw [(hT.2.2.2.2 j (by omega)).2.2.2, hp]
    exact if_pos hd
  refine x_icne rfl (fun e9 => absurd ((tk_20 hb).mpr hd) e9) (fun e9 => ?_)
  refine x_al rfl rfl ?_
  refine x_getC rfl hn (by with_reducible exact sp_1) (by exact rfl) ?_
  refine x_al rfl rfl ?_
  refine x_getC rfl hn (by with_reducible exact sp_1) (by exact rfl) ?_
  rw [h7]
  refine x_iaC rfl hn (by with_reducible exact sp_5) (by omega) ?_
  refine x_il rfl rfl ?_
  rw [hv]
  by_cases h5 : 4 < runs t en 48 57 (wS t en p) - wS t en p
  · rw [if_pos h5]
    refine x_iclt rfl (fun e9 => ?_) (fun e9 => absurd (Int32.lt_of_lt_of_le (show (-1 : Int32) < 0 by decide) hlo) e9)
    refine bad ?_
    unfold numR
    rw [if_pos (Or.inr (Or.inl h5))]
    decide
  rw [if_neg h5] at hv ⊢
  by_cases h6 : num t en (wS t en p) (wS t en p) 0 < lo
  · refine x_iclt rfl (fun e9 => ?_) (fun e9 => absurd h6 e9)
    refine bad ?_
    unfold numR
    rw [if_pos (Or.inr (Or.inr (Or.inl h6)))]
    decide
  refine x_iclt rfl (fun e9 => absurd e9 h6) (fun e9 => ?_)
  refine x_al rfl rfl ?_
  refine x_getC rfl hn (by with_reducible exact sp_1) (by exact rfl) ?_
  refine x_al rfl rfl ?_
  refine x_getC rfl hn (by with_reducible exact sp_1) (by exact rfl) ?_
  rw [h7]
  refine x_iaC rfl hn (by with_reducible exact sp_5) (by omega) ?_
  refine x_il rfl rfl ?_
  rw [hv]
  by_cases h8 : hi < num t en (wS t en p) (wS t en p) 0
  · refine x_icle rfl (fun e9 => absurd h8 (Int32.not_lt.mpr e9)) (fun e9 => ?_)
    refine bad ?_
    unfold numR
    rw [if_pos (Or.inr (Or.inr (Or.inr h8)))]
    decide
  refine x_icle rfl (fun e9 => ?_) (fun e9 => absurd (Int32.not_lt.mp h8) e9)
  refine x_al rfl rfl ?_
  refine x_dup rfl rfl ?_
  refine x_getC rfl hn (by with_reducible exact sp_1) (by exact rfl) ?_
  have hN : numR t en (wS t en p) lo hi = num t en (wS t en p) (wS t en p) 0 := by
    unfold numR
    rw [if_neg]
    rintro (h | h | h | h)
    · exact hgt h
    · exact h5 h
    · exact h6 h
    · exact h8 h
  rw [h7]
  refine x_c rfl ?_
  refine x_addN (y := 1) rfl ?_
  refine x_putC rfl hn (by with_reducible exact sp_1) (by exact rfl) (by first | rfl | exact nr_z (by assumption)) (by first | rfl | exact fi_z _) ?_
  refine x_al rfl rfl ?_
  refine x_getC rfl hn (by with_reducible exact sp_1) (by exact rfl) ?_
  refine x_al rfl rfl ?_
  refine x_getC rfl hn (by with_reducible exact sp_1) (by exact rfl) ?_
  rw [udA_t, upd_at]
  refine x_c rfl ?_
  first | refine x_subN (y := 1) rfl (by omega) ?_ | refine x_sub rfl ?_
  refine x_iaC rfl hn (by with_reducible exact sp_5) (by omega) ?_
  refine x_reti rfl (Nat.le_of_ble_eq_true rfl) (Nat.le_of_ble_eq_true rfl) rfl ?_
  refine Or.inr ⟨?_, ?_, ⟨a1, by rw [a2, hnx]⟩, rfl⟩
  · rw [hN]
    exact fun h => h6 (Int32.lt_of_lt_of_le h hlo)
  · rw [hN]
    exact congrArg (fun z => some (Value.int z)) hv
end CALLS
