/-! tokens of the class: letters, words, numbers; cw_ -/
/-- the words in the class's order, by the reference's numbers -/
def WL : List Nat := [1, 2, 3, 4, 5, 6, 7, 18, 19, 8, 9, 10, 11, 12, 13, 14, 15, 16, 17]
def wiF : Nat → Nat
  | 0 => 0
  | n + 1 => if (txL 0).getD n 0 = 32 then wiF n + 1 else wiF n
def frF : Nat → Nat
  | 0 => 0
  | n + 1 => if (txL 0).getD n 0 = 32 then n + 1 else frF n
theorem wtab : ∀ i : Fin 108, (txL 0).getD i.1 0 = 32 → wiF i.1 < 19 ∧ i.1 - frF i.1 = (txL (WL.getD (wiF i.1) 0)).length ∧ ∀ j : Fin 8, j.1 < (txL (WL.getD (wiF i.1) 0)).length → (txL 0).getD (frF i.1 + j.1) 0 = (txL (WL.getD (wiF i.1) 0)).getD j.1 0 := by decide +kernel
theorem wl_ok : ∀ j : Fin 19, 1 ≤ (txL (WL.getD j.1 0)).length ∧ (txL (WL.getD j.1 0)).length ≤ 8 ∧ WL.getD j.1 0 < 20 := by decide +kernel
theorem wi_end : wiF 108 = 19 := by decide +kernel
theorem tx0 : txN 0 = 108 := by decide +kernel
theorem fr_le : ∀ i, frF i ≤ i := by
  intro i
  induction i with
  | zero => exact Nat.le_refl _
  | succ i ih =>
    unfold frF
    split <;> omega
theorem tx_lt {k j : Nat} (hk : k < 20) : (txL k).getD j 0 < 128 := by
  have h : ∀ k : Fin 20, (txL k.1).all (fun c => decide (c < 128)) = true := by decide +kernel
  have h2 := List.all_eq_true.mp (h ⟨k, hk⟩)
  rw [List.getD_eq_getElem?_getD]
  cases e : (txL k)[j]? with
  | none => show 0 < 128; omega
  | some x => exact of_decide_eq_true (h2 x (List.mem_of_getElem? e))
theorem fiW_at {t : Nat → Int32} {e s : Nat} : ∀ (ks : List Nat) i0 j k, ks[j]? = some k → (∀ i, i < j → ∀ k', ks[i]? = some k' → ¬ wdB t e s k' = true) → wdB t e s k = true → fiW t e s ks i0 = some (i0 + j) := by
  intro ks
  induction ks with
  | nil => intro i0 j k h; simp at h
  | cons x ks ih =>
    intro i0 j k h hn hk
    unfold fiW
    cases j with
    | zero =>
      have : x = k := by simpa using h
      subst this
      rw [if_pos hk]
      rfl
    | succ j =>
      rw [if_neg (hn 0 (by omega) x (by simp)), ih (i0 + 1) j k (by simpa using h) (fun i hi k' hk' => hn (i + 1) (by omega) k' (by simpa using hk')) hk]
      exact congrArg some (by omega)
theorem fiW_no {t : Nat → Int32} {e s : Nat} : ∀ (ks : List Nat) (i0 : Nat), (∀ (i k' : Nat), ks[i]? = some k' → ¬ wdB t e s k' = true) → fiW t e s ks i0 = none := by
  intro ks
  induction ks with
  | nil => intro i0 _; rfl
  | cons x ks ih =>
    intro i0 hn
    unfold fiW
    rw [if_neg (hn 0 x (by simp))]
    exact ih _ (fun i k' hk' => hn (i + 1) k' (by simpa using hk'))
theorem WL_get {i k' : Nat} (h : WL[i]? = some k') : i < 19 ∧ k' = WL.getD i 0 := by
  have h2 : i < WL.length := by
    rcases Nat.lt_or_ge i WL.length with h3 | h3
    · exact h3
    · rw [List.getElem?_eq_none h3] at h; cases h
  refine ⟨h2, ?_⟩
  rw [List.getD_eq_getElem?_getD, h]
  rfl
theorem WL_at {i : Nat} (h : i < 19) : WL[i]? = some (WL.getD i 0) := by
  have h2 : i < WL.length := h
  rw [List.getD_eq_getElem?_getD, List.getElem?_eq_getElem h2]
  rfl
/-- the value of a number's digits -/
def vlF (t : Nat → Int32) (en s e : Nat) : Int32 := if 4 < e - s then -1 else num t en s s 0
/-- the sign at s as a token -/
def tkF (t : Nat → Int32) (b : Nat → Nat) (en s : Nat) : Int32 := if 97 ≤ b s ∧ b s ≤ 122 then nI ((fiW t (runs t en 97 122 s) s WL 0).getD 22) else if 48 ≤ b s ∧ b s ≤ 57 then 20 else nI (100 + b s)
/-- where it ends -/
def nxF (t : Nat → Int32) (b : Nat → Nat) (en s : Nat) : Nat := if 97 ≤ b s ∧ b s ≤ 122 then runs t en 97 122 s else if 48 ≤ b s ∧ b s ≤ 57 then runs t en 48 57 s else s + 1
def vaF (t : Nat → Int32) (b : Nat → Nat) (en s : Nat) : Int32 := if 48 ≤ b s ∧ b s ≤ 57 then vlF t en s (runs t en 48 57 s) else -1
/-- where the tokens end, one by one -/
def PP (t : Nat → Int32) (b : Nat → Nat) (en : Nat) : Nat → Nat
  | 0 => 0
  | i + 1 => nxF t b en (wS t en (PP t b en i))
section K
variable {t c : Nat → Int32} {en : Nat} {b : Nat → Nat}
theorem byt_eq (h : TpR t c en b) {i k j : Nat} (hi : i < en) (hk : k < 20) : c i = txC k j ↔ t i = txC k j := by
  obtain ⟨h1, h2, h3⟩ := h i hi
  have hl := tx_lt (j := j) hk
  unfold txC
  rw [h2, h3, nI_eq (by omega) (by omega), sbY_eq hl h1]
theorem runs_in {x y : Int32} : ∀ p, p ≤ en → ∀ q, p ≤ q → q < runs t en x y p → x ≤ t q ∧ t q ≤ y := by
  refine downN en fun p hp ih => ?_
  intro q h1 h2
  by_cases h : p < en ∧ x ≤ t p ∧ t p ≤ y
  · rw [runs_t h] at h2
    by_cases e : q = p
    · subst e; exact h.2
    · exact ih h.1 q (by omega) h2
  · rw [runs_f h] at h2; omega
theorem runs_stop {x y : Int32} : ∀ p, p ≤ en → ¬ (runs t en x y p < en ∧ x ≤ t (runs t en x y p) ∧ t (runs t en x y p) ≤ y) := by
  refine downN en fun p hp ih => ?_
  by_cases h : p < en ∧ x ≤ t p ∧ t p ≤ y
  · rw [runs_t h]; exact ih h.1
  · rw [runs_f h]; exact h
theorem runs_lt {x y : Int32} {p : Nat} (h : p < en ∧ x ≤ t p ∧ t p ≤ y) : p < runs t en x y p := by
  rw [runs_t h]
  exact runs_ge
/-- the class's words are the reference's -/
theorem wd_eq (h : TpR t c en b) {s e i : Nat} (hs : s ≤ e) (he : e ≤ en) (hi : i < 108) (h32 : (txL 0).getD i 0 = 32) : (i - frF i = e - s ∧ ∀ x, x < i - frF i → c (s + x) = txC 0 (frF i + x)) ↔ wdB t e s (WL.getD (wiF i) 0) = true := by
  obtain ⟨w1, w2, w3⟩ := wtab ⟨i, hi⟩ h32
  obtain ⟨l1, l2, l3⟩ := wl_ok ⟨wiF i, w1⟩
  have w2 : i - frF i = txN (WL.getD (wiF i) 0) := w2
  have l2 : txN (WL.getD (wiF i) 0) ≤ 8 := l2
  have l3 : WL.getD (wiF i) 0 < 20 := l3
  have w3 : ∀ x, x < txN (WL.getD (wiF i) 0) → txC 0 (frF i + x) = txC (WL.getD (wiF i) 0) x := fun x hx => congrArg nI (w3 ⟨x, by omega⟩ hx)
  generalize WL.getD (wiF i) 0 = k at *
  unfold wdB
  rw [decide_eq_true_iff, w2]
  constructor
  · rintro ⟨h1, h2⟩
    refine ⟨h1.symm, fun x hx => (byt_eq h (by omega) l3).mp ?_⟩
    rw [← w3 x hx]
    exact h2 x hx
  · rintro ⟨h1, h2⟩
    refine ⟨h1.symm, fun x hx => ?_⟩
    rw [w3 x hx]
    exact (byt_eq h (by omega) l3).mpr (h2 x hx)
end K
section CALLS
variable {g : aG} {d : Nat} {w : aW} {F A : Nat → Nat → Int32} {L : Nat → Int64}
theorem c_isLetter {k : Nat} (hk : k < 256) : Ev g (d + 1) 99 [.int (nI k)] w (RetQ (bI (decide (97 ≤ k ∧ k ≤ 122))) w) noX := by
  refine ev_X9_isLetter ?_ (Nat.le_of_ble_eq_true rfl)
  refine x_lo (lo' := [some (.int (nI k))]) rfl ?_
  refine x_il rfl rfl ?_
  refine x_c rfl ?_
  refine x_icltN (y := 97) rfl (by omega) (fun c1 => ?_) (fun c1 => ?_)
  · refine x_c rfl ?_
    refine x_retz rfl (Nat.le_of_ble_eq_true rfl) (Nat.le_of_ble_eq_true rfl) rfl (by first | rfl | assumption | exact bI_01 _) ?_
    exact ret_f (by omega)
  refine x_il rfl rfl ?_
  refine x_c rfl ?_
  refine x_icgtN (y := 122) rfl (by omega) (fun c2 => ?_) (fun c2 => ?_)
  · refine x_c rfl ?_
    refine x_retz rfl (Nat.le_of_ble_eq_true rfl) (Nat.le_of_ble_eq_true rfl) rfl (by first | rfl | assumption | exact bI_01 _) ?_
    exact ret_f (by omega)
  refine x_c rfl ?_
  refine x_go rfl ?_
  refine x_retz rfl (Nat.le_of_ble_eq_true rfl) (Nat.le_of_ble_eq_true rfl) rfl (by first | rfl | assumption | exact bI_01 _) ?_
  exact ret_t (by omega)
theorem c_isDigit {k : Nat} (hk : k < 256) : Ev g (d + 1) 100 [.int (nI k)] w (RetQ (bI (decide (48 ≤ k ∧ k ≤ 57))) w) noX := by
  refine ev_X9_isDigit ?_ (Nat.le_of_ble_eq_true rfl)
  refine x_lo (lo' := [some (.int (nI k))]) rfl ?_
  refine x_il rfl rfl ?_
  refine x_c rfl ?_
  refine x_icltN (y := 48) rfl (by omega) (fun c1 => ?_) (fun c1 => ?_)
  · refine x_c rfl ?_
    refine x_retz rfl (Nat.le_of_ble_eq_true rfl) (Nat.le_of_ble_eq_true rfl) rfl (by first | rfl | assumption | exact bI_01 _) ?_
    exact ret_f (by omega)
  refine x_il rfl rfl ?_
  refine x_c rfl ?_
  refine x_icgtN (y := 57) rfl (by omega) (fun c2 => ?_) (fun c2 => ?_)
  · refine x_c rfl ?_
    refine x_retz rfl (Nat.le_of_ble_eq_true rfl) (Nat.le_of_ble_eq_true rfl) rfl (by first | rfl | assumption | exact bI_01 _) ?_
    exact ret_f (by omega)
  refine x_c rfl ?_
  refine x_go rfl ?_
  refine x_retz rfl (Nat.le_of_ble_eq_true rfl) (Nat.le_of_ble_eq_true rfl) rfl (by first | rfl | assumption | exact bI_01 _) ?_
  exact ret_t (by omega)
theorem c_goesOn {x y : Nat} (hx : x < 256) (hy : y < 256) (hn : w.1 = N0) : Ev g (d + 2) 98 [.int (nI x), .int (nI y)] w (RetQ (bI (decide ((97 ≤ x ∧ x ≤ 122) ∧ (97 ≤ y ∧ y ≤ 122) ∨ (48 ≤ x ∧ x ≤ 57) ∧ (48 ≤ y ∧ y ≤ 57)))) w) noX := by
  have six : ¬ ((97 ≤ x ∧ x ≤ 122) ∧ (97 ≤ y ∧ y ≤ 122)) → EX g mbOf (Ev g (d + 1)) (infoOf 98) k_X9_goesOn (RetQ (bI (decide ((97 ≤ x ∧ x ≤ 122) ∧ (97 ≤ y ∧ y ≤ 122) ∨ (48 ≤ x ∧ x ≤ 57) ∧ (48 ≤ y ∧ y ≤ 57)))) w) noX w.1 (w) 0 0 6 [some (.int (nI x)), some (.int (nI y))] [] := by
    intro h
    refine x_il rfl rfl ?_
    refine x_call1 (c_isDigit hx) rfl (Nat.le_of_ble_eq_true rfl) (Or.inl (by first | exact hn | assumption)) trivial (Nat.le_of_ble_eq_true rfl) (Nat.le_of_ble_eq_true rfl) (fun E w9 hq => hq.elim) ?_
    rintro v9 w9 ⟨rfl, rfl⟩
    refine x_ifeqB rfl (fun c3 => ?_) (fun c3 => ?_)
    · refine x_c rfl ?_
      refine x_retz rfl (Nat.le_of_ble_eq_true rfl) (Nat.le_of_ble_eq_true rfl) rfl (by first | rfl | assumption | exact bI_01 _) ?_
      exact ret_f (by omega)
    refine x_il rfl rfl ?_
    refine x_call1 (c_isDigit hy) rfl (Nat.le_of_ble_eq_true rfl) (Or.inl (by first | exact hn | assumption)) trivial (Nat.le_of_ble_eq_true rfl) (Nat.le_of_ble_eq_true rfl) (fun E w9 hq => hq.elim) ?_
    rintro v9 w9 ⟨rfl, rfl⟩
    refine x_ifeqB rfl (fun c4 => ?_) (fun c4 => ?_)
    · refine x_c rfl ?_
      refine x_retz rfl (Nat.le_of_ble_eq_true rfl) (Nat.le_of_ble_eq_true rfl) rfl (by first | rfl | assumption | exact bI_01 _) ?_
      exact ret_f (by omega)
    refine x_c rfl ?_
    refine x_go rfl ?_
    refine x_retz rfl (Nat.le_of_ble_eq_true rfl) (Nat.le_of_ble_eq_true rfl) rfl (by first | rfl | assumption | exact bI_01 _) ?_
    exact ret_t (by omega)
  refine ev_X9_goesOn ?_ (Nat.le_of_ble_eq_true rfl)
  refine x_lo (lo' := [some (.int (nI x)), some (.int (nI y))]) rfl ?_
  refine x_il rfl rfl ?_
  refine x_call1 (c_isLetter hx) rfl (Nat.le_of_ble_eq_true rfl) (Or.inl (by first | exact hn | assumption)) trivial (Nat.le_of_ble_eq_true rfl) (Nat.le_of_ble_eq_true rfl) (fun E w9 hq => hq.elim) ?_
  rintro v9 w9 ⟨rfl, rfl⟩
  refine x_ifeqB rfl (fun c1 => ?_) (fun c1 => ?_)
  · skip
    exact six (by omega)
  refine x_il rfl rfl ?_
  refine x_call1 (c_isLetter hy) rfl (Nat.le_of_ble_eq_true rfl) (Or.inl (by first | exact hn | assumption)) trivial (Nat.le_of_ble_eq_true rfl) (Nat.le_of_ble_eq_true rfl) (fun E w9 hq => hq.elim) ?_
  rintro v9 w9 ⟨rfl, rfl⟩
  refine x_ifneB rfl (fun c2 => ?_) (fun c2 => ?_)
  · refine x_c rfl ?_
    refine x_go rfl ?_
    refine x_retz rfl (Nat.le_of_ble_eq_true rfl) (Nat.le_of_ble_eq_true rfl) rfl (by first | rfl | assumption | exact bI_01 _) ?_
    exact ret_t (by omega)
  exact six (by omega)
theorem c_isWordAt {s o z : Nat} (hT : HTx g) (hs : s + z ≤ 400) (ho : o + z ≤ 108) (hn : w.1 = N0) : Ev g (d + 5) 103 [.ref 1, .int (nI s), .int (nI o), .int (nI z)] (cW w F A L) (fun v w' => (v = some (.int 1) ∧ (∀ j, j < z → A 2 (s + j) = txC 0 (o + j)) ∨ v = some (.int 0) ∧ ¬ (∀ j, j < z → A 2 (s + j) = txC 0 (o + j))) ∧ w' = cW w F A L) noX := by
  have hTx := hT.1 0 (by decide)
  have hN := tx0
  have loop : ∀ i, i ≤ z → (∀ j, j < i → A 2 (s + j) = txC 0 (o + j)) → EX g mbOf (Ev g (d + 4)) (infoOf 103) k_X9_isWordAt (fun v w' => (v = some (.int 1) ∧ (∀ j, j < z → A 2 (s + j) = txC 0 (o + j)) ∨ v = some (.int 0) ∧ ¬ (∀ j, j < z → A 2 (s + j) = txC 0 (o + j))) ∧ w' = cW w F A L) noX w.1 (cW w F A L) 0 0 2 [some (.ref 1), some (.int (nI s)), some (.int (nI o)), some (.int (nI z)), some (.int (nI i))] [] := by
    refine downN z fun i hi ih => ?_
    intro hx
    refine x_il rfl rfl ?_
    refine x_il rfl rfl ?_
    refine x_icgeN rfl (by omega) (fun c0 => ?_) (fun c0 => ?_)
    · refine x_c rfl ?_
      refine x_retz rfl (Nat.le_of_ble_eq_true rfl) (Nat.le_of_ble_eq_true rfl) rfl (by first | rfl | assumption | exact bI_01 _) ?_
      exact ⟨Or.inl ⟨rfl, fun j hj => hx j (by omega)⟩, rfl⟩
    refine x_al rfl rfl ?_
    refine x_getC rfl hn (by with_reducible exact sp_1) (by exact rfl) ?_
    refine x_il rfl rfl ?_
    refine x_il rfl rfl ?_
    refine x_addN rfl ?_
    refine x_iaC rfl hn (by with_reducible exact sp_2) (by omega) ?_
    refine x_str rfl ?_
    refine x_il rfl rfl ?_
    refine x_il rfl rfl ?_
    refine x_addN rfl ?_
    have ih := ih c0
    refine x_call2 (m_charAt hTx hT.2 (show o + i < txN 0 by omega) hn (tx_255 (by decide) _ (by omega))) rfl (Nat.le_of_ble_eq_true rfl) (Or.inl (by first | exact hn | assumption)) (by first | exact h.rcv | exact hTx.rcv) (Nat.le_of_ble_eq_true rfl) (Nat.le_of_ble_eq_true rfl) (fun E w9 hq => hq.elim) ?_
    rintro v9 w9 ⟨rfl, rfl⟩
    refine x_iceq rfl (fun c1 => ?_) (fun c1 => ?_)
    · refine x_inc1 (lo' := [_, _, _, _, _]) rfl rfl rfl ?_
      refine x_go rfl ?_
      exact ih (fun j hj => by
        by_cases e : j = i
        · subst e; exact c1
        · exact hx j (by omega))
    refine x_c rfl ?_
    refine x_retz rfl (Nat.le_of_ble_eq_true rfl) (Nat.le_of_ble_eq_true rfl) rfl (by first | rfl | assumption | exact bI_01 _) ?_
    exact ⟨Or.inr ⟨rfl, fun h => c1 (h i c0)⟩, rfl⟩
  refine ev_X9_isWordAt ?_ (Nat.le_of_ble_eq_true rfl)
  refine x_lo (lo' := [some (.ref 1), some (.int (nI s)), some (.int (nI o)), some (.int (nI z)), none]) rfl ?_
  refine x_c rfl ?_
  refine x_is (lo' := [_, _, _, _, _]) rfl (Nat.le_of_ble_eq_true rfl) rfl ?_
  exact loop 0 (Nat.zero_le _) (fun j h => absurd h (Nat.not_lt_zero _))
theorem c_wordToken {t : Nat → Int32} {b : Nat → Nat} {en s e : Nat} (hT : HTx g) (hB : TpR t (A 2) en b) (hs : s ≤ e) (he : e ≤ en) (hen : en ≤ 400) (hn : w.1 = N0) : Ev g (d + 6) 102 [.ref 1, .int (nI s), .int (nI e)] (cW w F A L) (RetQ (nI ((fiW t e s WL 0).getD 22)) (cW w F A L)) noX := by
  have hTx := hT.1 0 (by decide)
  have hN := tx0
  have loop : ∀ i, i ≤ 108 → (∀ j, j < wiF i → ¬ wdB t e s (WL.getD j 0) = true) → EX g mbOf (Ev g (d + 5)) (infoOf 102) k_X9_wordToken (RetQ (nI ((fiW t e s WL 0).getD 22)) (cW w F A L)) noX w.1 (cW w F A L) 0 0 6 [some (.ref 1), some (.int (nI s)), some (.int (nI e)), some (.int (nI (wiF i))), some (.int (nI (frF i))), some (.int (nI i))] [] := by
    refine downN 108 fun i hi ih => ?_
    intro hx
    have hfr := fr_le i
    have old : ∀ j, j < wiF i → ∀ k', WL[j]? = some k' → ¬ wdB t e s k' = true := fun j hj k' hk' => by
      rw [(WL_get hk').2]
      exact hx j hj
    refine x_il rfl rfl ?_
    refine x_str rfl ?_
    refine x_call1 (m_length hTx hn) rfl (Nat.le_of_ble_eq_true rfl) (Or.inl (by first | exact hn | assumption)) (by first | exact h.rcv | exact hTx.rcv) (Nat.le_of_ble_eq_true rfl) (Nat.le_of_ble_eq_true rfl) (fun E w9 hq => hq.elim) ?_
    rintro v9 w9 ⟨rfl, rfl⟩
    refine x_icgeN rfl (by omega) (fun c0 => ?_) (fun c0 => ?_)
    · refine x_c rfl ?_
      refine x_reti rfl (Nat.le_of_ble_eq_true rfl) (Nat.le_of_ble_eq_true rfl) rfl ?_
      have e0 : wiF i = 19 := by
        rw [show i = 108 by omega]
        exact wi_end
      exact ⟨by rw [fiW_no WL 0 (fun j k' hk' => old j (by rw [e0]; exact (WL_get hk').1) k' hk')]; rfl, rfl⟩
    refine x_str rfl ?_
    refine x_il rfl rfl ?_
    have c9 : i < 108 := by omega
    have ih := ih c9
    have l38 : ∀ a f, (∀ j, j < a → ¬ wdB t e s (WL.getD j 0) = true) → wiF (i + 1) = a → frF (i + 1) = f → EX g mbOf (Ev g (d + 5)) (infoOf 102) k_X9_wordToken (RetQ (nI ((fiW t e s WL 0).getD 22)) (cW w F A L)) noX w.1 (cW w F A L) 0 0 38 [some (.ref 1), some (.int (nI s)), some (.int (nI e)), some (.int (nI a)), some (.int (nI f)), some (.int (nI i))] [] := by
      rintro _ _ h rfl rfl
      refine x_inc1 (lo' := [_, _, _, _, _, _]) rfl rfl rfl ?_
      refine x_go rfl ?_
      exact ih h
    refine x_call2 (m_charAt hTx hT.2 c0 hn (tx_255 (by decide) _ c0)) rfl (Nat.le_of_ble_eq_true rfl) (Or.inl (by first | exact hn | assumption)) (by first | exact h.rcv | exact hTx.rcv) (Nat.le_of_ble_eq_true rfl) (Nat.le_of_ble_eq_true rfl) (fun E w9 hq => hq.elim) ?_
    rintro v9 w9 ⟨rfl, rfl⟩
    refine x_c rfl ?_
    by_cases c1 : (txL 0).getD i 0 = 32
    · have e1 : txC 0 i = 32 := congrArg nI c1
      refine x_iceq rfl (fun e9 => ?_) (fun e9 => absurd e1 e9)
      refine x_il rfl rfl ?_
      refine x_il rfl rfl ?_
      first | refine x_subN rfl (by omega) ?_ | refine x_sub rfl ?_
      refine x_il rfl rfl ?_
      refine x_il rfl rfl ?_
      first | refine x_subN rfl (by omega) ?_ | refine x_sub rfl ?_
      obtain ⟨w1, w2, w3⟩ := wtab ⟨i, c9⟩ c1
      obtain ⟨l1, l2, l3⟩ := wl_ok ⟨wiF i, w1⟩
      have w2 : i - frF i = txN (WL.getD (wiF i) 0) := w2
      have l2 : txN (WL.getD (wiF i) 0) ≤ 8 := l2
      have w1 : wiF i < 19 := w1
      have we := wd_eq hB hs he c9 c1
      have n1 : wiF (i + 1) = wiF i + 1 := if_pos c1
      have n2 : frF (i + 1) = i + 1 := if_pos c1
      have l33 : ¬ wdB t e s (WL.getD (wiF i) 0) = true → EX g mbOf (Ev g (d + 5)) (infoOf 102) k_X9_wordToken (RetQ (nI ((fiW t e s WL 0).getD 22)) (cW w F A L)) noX w.1 (cW w F A L) 0 0 33 [some (.ref 1), some (.int (nI s)), some (.int (nI e)), some (.int (nI (wiF i))), some (.int (nI (frF i))), some (.int (nI i))] [] := by
        intro h
        refine x_inc1 (lo' := [_, _, _, _, _, _]) rfl rfl rfl ?_
        refine x_il rfl rfl ?_
        refine x_c rfl ?_
        refine x_addN (y := 1) rfl ?_
        refine x_is (lo' := [_, _, _, _, _, _]) rfl (Nat.le_of_ble_eq_true rfl) rfl ?_
        exact l38 _ _ (fun j hj => by
          by_cases ej : j = wiF i
          · subst ej; exact h
          · exact hx j (by omega)) n1 n2
      refine x_icneN rfl (by omega) (fun c2 => ?_) (fun c2 => ?_)
      · skip
        exact l33 (fun h => c2 (we.mpr h).1)
      refine x_al rfl rfl ?_
      refine x_il rfl rfl ?_
      refine x_il rfl rfl ?_
      refine x_il rfl rfl ?_
      refine x_il rfl rfl ?_
      first | refine x_subN rfl (by omega) ?_ | refine x_sub rfl ?_
      refine x_call4 (c_isWordAt (s := s) (o := frF i) (z := i - frF i) hT (by omega) (by omega) hn) rfl (Nat.le_of_ble_eq_true rfl) (Or.inl (by first | exact hn | assumption)) (rcv_at (cw_fs (by with_reducible exact sp_1) hn) (by decide) (by decide)) (Nat.le_of_ble_eq_true rfl) (Nat.le_of_ble_eq_true rfl) (fun E w9 hq => hq.elim) ?_
      rintro v9 w9 ⟨hh, rfl⟩
      rcases hh with ⟨rfl, h1⟩ | ⟨rfl, h1⟩
      · refine x_ifeq rfl (fun e9 => absurd e9 (by decide)) (fun e9 => ?_)
        refine x_il rfl rfl ?_
        refine x_reti rfl (Nat.le_of_ble_eq_true rfl) (Nat.le_of_ble_eq_true rfl) rfl ?_
        exact ⟨by rw [fiW_at WL 0 (wiF i) _ (WL_at w1) old (we.mp ⟨c2, h1⟩), Nat.zero_add]; rfl, rfl⟩
      · refine x_ifeq rfl (fun e9 => ?_) (fun e9 => absurd rfl e9)
        exact l33 (fun h => h1 (we.mpr h).2)
    · have e1 : ¬ txC 0 i = 32 := fun h => c1 ((nI_eq (a := (txL 0).getD i 0) (b := 32) (by have := tx_lt (k := 0) (j := i) (by decide); omega) (by omega)).mp h)
      refine x_iceq rfl (fun e9 => absurd e9 e1) (fun e9 => ?_)
      refine x_go rfl ?_
      exact l38 _ _ hx (if_neg c1) (if_neg c1)
  refine ev_X9_wordToken ?_ (Nat.le_of_ble_eq_true rfl)
  refine x_lo (lo' := [some (.ref 1), some (.int (nI s)), some (.int (nI e)), none, none, none]) rfl ?_
  refine x_c rfl ?_
  refine x_is (lo' := [_, _, _, _, _, _]) rfl (Nat.le_of_ble_eq_true rfl) rfl ?_
  refine x_c rfl ?_
  refine x_is (lo' := [_, _, _, _, _, _]) rfl (Nat.le_of_ble_eq_true rfl) rfl ?_
  refine x_c rfl ?_
  refine x_is (lo' := [_, _, _, _, _, _]) rfl (Nat.le_of_ble_eq_true rfl) rfl ?_
  exact loop 0 (by decide) (fun j h => absurd h (Nat.not_lt_zero _))
theorem c_valueOf {t : Nat → Int32} {b : Nat → Nat} {en s : Nat} (hB : TpR t (A 2) en b) (hs : s ≤ en) (hen : en ≤ 400) (hn : w.1 = N0) : Ev g (d + 1) 104 [.ref 1, .int (nI s), .int (nI (runs t en 48 57 s))] (cW w F A L) (RetQ (vlF t en s (runs t en 48 57 s)) (cW w F A L)) noX := by
  have g1 : s ≤ runs t en 48 57 s := runs_ge
  have g2 : runs t en 48 57 s ≤ en := runs_le hs
  have hin := fun q h1 h2 => runs_in (t := t) (en := en) (x := 48) (y := 57) s hs q h1 h2
  have hst := runs_stop (t := t) (en := en) (x := 48) (y := 57) s hs
  unfold vlF
  generalize runs t en 48 57 s = e at *
  refine ev_X9_valueOf ?_ (Nat.le_of_ble_eq_true rfl)
  refine x_lo (lo' := [some (.ref 1), some (.int (nI s)), some (.int (nI e)), none, none]) rfl ?_
  refine x_il rfl rfl ?_
  refine x_il rfl rfl ?_
  first | refine x_subN rfl (by omega) ?_ | refine x_sub rfl ?_
  refine x_c rfl ?_
  refine x_icleN (y := 4) rfl (by omega) (fun c0 => ?_) (fun c0 => ?_)
  rotate_left
  · refine x_c rfl ?_
    refine x_reti rfl (Nat.le_of_ble_eq_true rfl) (Nat.le_of_ble_eq_true rfl) rfl ?_
    rw [if_pos c0]
    exact ⟨rfl, rfl⟩
  refine x_c rfl ?_
  refine x_is (lo' := [_, _, _, _, _]) rfl (Nat.le_of_ble_eq_true rfl) rfl ?_
  refine x_il rfl rfl ?_
  refine x_is (lo' := [_, _, _, _, _]) rfl (Nat.le_of_ble_eq_true rfl) rfl ?_
  rw [if_neg (by omega)]
  have loop : ∀ p, p ≤ e → s ≤ p → ∀ v, num t en s p v = num t en s s 0 → EX g mbOf (Ev g (d)) (infoOf 104) k_X9_valueOf (RetQ (num t en s s 0) (cW w F A L)) noX w.1 (cW w F A L) 0 0 11 [some (.ref 1), some (.int (nI s)), some (.int (nI e)), some (.int v), some (.int (nI p))] [] := by
    refine downN e fun p hp ih => ?_
    intro hsp v hv
    refine x_il rfl rfl ?_
    refine x_il rfl rfl ?_
    refine x_icgeN rfl (by omega) (fun c1 => ?_) (fun c1 => ?_)
    · refine x_il rfl rfl ?_
      refine x_reti rfl (Nat.le_of_ble_eq_true rfl) (Nat.le_of_ble_eq_true rfl) rfl ?_
      refine ⟨?_, rfl⟩
      rw [num_f (by rw [show p = e by omega]; exact hst)] at hv
      rw [hv]
    refine x_c rfl ?_
    refine x_il rfl rfl ?_
    refine x_mul rfl ?_
    refine x_al rfl rfl ?_
    refine x_getC rfl hn (by with_reducible exact sp_1) (by exact rfl) ?_
    refine x_il rfl rfl ?_
    refine x_iaC rfl hn (by with_reducible exact sp_2) (by omega) ?_
    have hd := hin p hsp c1
    obtain ⟨b1, b2, b3⟩ := hB p (by omega)
    have hbd := (hB.rng (show p < en by omega) (x := 48) (y := 57) (by omega) (by omega)).mp hd
    rw [b2, ← sbY_lo (show b p < 128 by omega), ← b3]
    refine x_add rfl ?_
    refine x_c rfl ?_
    refine x_sub rfl ?_
    refine x_is (lo' := [_, _, _, _, _]) rfl (Nat.le_of_ble_eq_true rfl) rfl ?_
    refine x_inc1 (lo' := [_, _, _, _, _]) rfl rfl rfl ?_
    refine x_go rfl ?_
    refine ih c1 (by omega) _ ?_
    rw [← hv, num_t (v := v) ⟨by omega, hd⟩, if_pos (by omega)]
  exact loop s g1 (Nat.le_refl _) 0 rfl
end CALLS
