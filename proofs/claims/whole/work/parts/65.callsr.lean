/-! rules: a text is taken up; mset_ -/
def cpT (t : Nat) : (Nat → Int32) → Nat → Nat → Int32 := acc (fun k h => upd h (12826 + 850 * t + k) (h (21326 + k)))
def putT (fx : Nat → Int32) (t : Nat) (day n : Int32) : Nat → Int32 := upd (upd (cpT t (upd fx 12825 (nI (t + 1))) 850) (12826 + 850 * t) day) (12826 + 850 * t + 1) n
def useM (m : Nat → Int32) : Nat → Int32 := upd (upd (upd (upd m 0 0) 7 (m 5)) 5 0) 6 0
section CALLS
variable {g : aG} {d : Nat} {w : aW} {m f : Nat → Int32} {A : Nat → Nat → Int32} {B : Nat → Nat → Int64}
theorem n_uses (hn : w.1 = N0) : Ev g (d + 1) 186 [.ref 1424] (rW w m f A B) (VoidQ (rW w (useM m) f A B)) noX := by
  refine ev_X11_uses ?_ (Nat.le_of_ble_eq_true rfl)
  refine x_lo (lo' := [some (.ref 1424)]) rfl ?_
  refine x_al rfl rfl ?_
  refine x_c rfl ?_
  refine x_putM rfl hn rfl rfl rfl (mset_0 _ _) ?_
  refine x_al rfl rfl ?_
  refine x_al rfl rfl ?_
  refine x_get rfl (rw_md hn) (by exact rfl) ?_
  refine x_putM rfl hn rfl rfl rfl (mset_7 _ _) ?_
  refine x_al rfl rfl ?_
  refine x_c rfl ?_
  refine x_putM rfl hn rfl rfl rfl (mset_5 _ _) ?_
  refine x_al rfl rfl ?_
  refine x_c rfl ?_
  refine x_putM rfl hn rfl rfl rfl (mset_6 _ _) ?_
  refine x_retv rfl (Nat.le_of_ble_eq_true rfl) (Nat.le_of_ble_eq_true rfl) rfl ?_
  rw [show upd m 0 0 5 = m 5 from pk_un (by decide)]
  exact ⟨rfl, rfl⟩
theorem useM_5 : useM m 5 = 0 := by unfold useM; rw [pk_un (by decide), pk_us]
theorem useM_0 : useM m 0 = 0 := by unfold useM; rw [pk_un (by decide), pk_un (by decide), pk_un (by decide), pk_us]
theorem useM_o {k : Nat} (h : k ≠ 0 ∧ k ≠ 5 ∧ k ≠ 6 ∧ k ≠ 7) : useM m k = m k := by unfold useM; rw [pk_un h.2.2.1, pk_un h.2.1, pk_un h.2.2.2, pk_un h.1]
theorem useM_T {en : Nat} (h5 : m 5 = nI en) (hen : en ≤ 400) : Tp (useM m) 0 en := ⟨by unfold useM; rw [pk_us]; rfl, by unfold useM; rw [pk_un (by decide), pk_un (by decide), pk_us, h5], Nat.zero_le _, hen⟩
def RuQ (w : aW) (m f : Nat → Int32) (A : Nat → Nat → Int32) (B : Nat → Nat → Int64) (R : TR) (nt : Nat) (day : Int32) : Option Value → aW → Prop := fun v w' => ∃ m' f', w' = rW w m' f' A B ∧ m' 3 = m 3 ∧ m' 5 = 0 ∧ ((¬ (f 0 ≤ day ∧ day ≤ 2000) ∧ v = some (.int 0) ∧ m' 0 = 1 ∧ m' 10 = m 10 ∧ f' = f) ∨ ((f 0 ≤ day ∧ day ≤ 2000) ∧ ∃ fx : Nat → Int32, (∀ i, i < 21328 → fx i = f i) ∧ ((R.1 = false ∧ v = some (.int 0) ∧ m' 0 = 1 ∧ m' 10 = nI R.2.1 ∧ f' = fx) ∨ (R.1 = true ∧ nt = 10 ∧ v = some (.int 0) ∧ m' 0 = 2 ∧ m' 10 = -1 ∧ f' = fx) ∨ (R.1 = true ∧ ¬ nt = 10 ∧ v = some (.int (nI R.2.2.1.length)) ∧ m' 0 = 0 ∧ m' 10 = -1 ∧ R.2.2.1.length ≤ 12 ∧ rowsAt fx R.2.2.1 ∧ (∀ i, 21376 ≤ i → fx i = wrL f 0 R.2.2.2 i) ∧ f' = putT fx nt day (nI R.2.2.1.length)))))
theorem cpT_o {t : Nat} {f : Nat → Int32} {i : Nat} (hi : i < 12826 + 850 * t ∨ 12826 + 850 * t + 850 ≤ i) : ∀ k, k ≤ 850 → cpT t f k i = f i := by
  intro k
  induction k with
  | zero => intro _; rfl
  | succ k ih =>
    intro hk
    show upd (cpT t f k) (12826 + 850 * t + k) _ i = _
    rw [pk_un (by omega)]; exact ih (by omega)
theorem r_rules {day : Int32} {t : Nat → Int32} {nt en : Nat} (hTx : HTx g) (ht : A 1427 = t) (h5 : m 5 = nI en) (hen : en ≤ 400) (hc : f 12825 = nI nt) (h10 : nt ≤ 10) (hn : w.1 = N0) : Ev g (d + 33) 256 [.ref 1424, .int day] (rW w m f A B) (RuQ w m f A B (pText t en 0) nt day) noX := by
  refine ev_X11_rules ?_ (Nat.le_of_ble_eq_true rfl)
  refine x_lo (lo' := [some (.ref 1424), some (.int day), none, none, none]) rfl ?_
  refine x_al rfl rfl ?_
  refine x_call1 (n_uses hn) rfl (Nat.le_of_ble_eq_true rfl) (Or.inl (by first | exact hn | assumption)) (rcv_at (by first | exact rw_md hn | exact rw_w hn | exact rw_A hn (by exact rfl) | exact rw_B2 hn | exact rw_B3 hn | assumption) (by decide) (by decide)) (Nat.le_of_ble_eq_true rfl) (Nat.le_of_ble_eq_true rfl) (fun E w9 hq => hq.elim) ?_
  rintro v9 w9 ⟨rfl, rfl⟩
  refine x_al rfl rfl ?_
  refine x_il rfl rfl ?_
  refine x_al rfl rfl ?_
  refine x_call1 (n_today hn) rfl (Nat.le_of_ble_eq_true rfl) (Or.inl (by first | exact hn | assumption)) (rcv_at (by first | exact rw_md hn | exact rw_w hn | exact rw_A hn (by exact rfl) | exact rw_B2 hn | exact rw_B3 hn | assumption) (by decide) (by decide)) (Nat.le_of_ble_eq_true rfl) (Nat.le_of_ble_eq_true rfl) (fun E w9 hq => hq.elim) ?_
  rintro v9 w9 ⟨rfl, rfl⟩
  refine x_c rfl ?_
  refine x_call3 (m_in) rfl (Nat.le_of_ble_eq_true rfl) (Or.inl (by first | exact hn | assumption)) trivial (Nat.le_of_ble_eq_true rfl) (Nat.le_of_ble_eq_true rfl) (fun E w9 hq => hq.elim) ?_
  rintro v9 w9 ⟨rfl, rfl⟩
  have hm0 : useM m 3 = m 3 := useM_o (by decide)
  refine x_ifneB rfl (fun c0 => ?_) (fun c0 => ?_)
  rotate_left
  · refine x_c rfl ?_
    refine x_go rfl ?_
    refine x_c rfl ?_
    refine x_call3 (n_throwsIf (b := true) hn) rfl (Nat.le_of_ble_eq_true rfl) (Or.inl (by first | exact hn | assumption)) (rcv_at (by first | exact rw_md hn | exact rw_w hn | exact rw_A hn (by exact rfl) | exact rw_B2 hn | exact rw_B3 hn | assumption) (by decide) (by decide)) (Nat.le_of_ble_eq_true rfl) (Nat.le_of_ble_eq_true rfl) (fun E w9 hq => hq.elim) ?_
    rintro v9 w9 ⟨rfl, rfl⟩
    refine x_ifeq rfl (fun c => absurd c (show ¬ (1 : Int32) = 0 by decide)) (fun c => ?_)
    refine x_c rfl ?_
    refine x_reti rfl (Nat.le_of_ble_eq_true rfl) (Nat.le_of_ble_eq_true rfl) rfl ?_
    exact ⟨_, f, rfl, by rw [if_pos rfl, pk_un (by decide)]; exact hm0, by rw [if_pos rfl, pk_un (by decide)]; exact useM_5, Or.inl ⟨c0, rfl, by rw [if_pos rfl, pk_us], by rw [if_pos rfl, pk_un (by decide)]; exact useM_o (by decide), rfl⟩⟩
  refine x_c rfl ?_
  refine x_c rfl ?_
  refine x_call3 (n_throwsIf (b := false) hn) rfl (Nat.le_of_ble_eq_true rfl) (Or.inl (by first | exact hn | assumption)) (rcv_at (by first | exact rw_md hn | exact rw_w hn | exact rw_A hn (by exact rfl) | exact rw_B2 hn | exact rw_B3 hn | assumption) (by decide) (by decide)) (Nat.le_of_ble_eq_true rfl) (Nat.le_of_ble_eq_true rfl) (fun E w9 hq => hq.elim) ?_
  rintro v9 w9 ⟨rfl, rfl⟩
  refine x_ifeq rfl (fun c => ?_) (fun c => absurd rfl c)
  refine x_al rfl rfl ?_
  rw [if_neg (by decide)]
  refine x_call1 (n_readAll hTx ht (useM_T h5 hen) hn) rfl (Nat.le_of_ble_eq_true rfl) (Or.inl (by first | exact hn | assumption)) (rcv_at (by first | exact rw_md hn | exact rw_w hn | exact rw_A hn (by exact rfl) | exact rw_B2 hn | exact rw_B3 hn | assumption) (by decide) (by decide)) (Nat.le_of_ble_eq_true rfl) (Nat.le_of_ble_eq_true rfl) (fun E w9 hq => hq.elim) ?_
  rintro v9 w9 ⟨rfl, m2, fx, rfl, d1, d2, d3, d4⟩
  refine x_is (lo' := [_, _, _, _, _]) rfl (Nat.le_of_ble_eq_true rfl) rfl ?_
  refine x_al rfl rfl ?_
  refine x_il rfl rfl ?_
  generalize pText t en 0 = R at *
  have q3 : m2 3 = m 3 := (d2 3 (by decide) (by decide) (by decide) (by decide)).trans hm0
  have q5 : m2 5 = 0 := (d2 5 (by decide) (by decide) (by decide) (by decide)).trans useM_5
  have q0 : m2 0 = 0 := (d2 0 (by decide) (by decide) (by decide) (by decide)).trans useM_0
  have hc2 : fx 12825 = nI nt := (d3 _ (by decide)).trans hc
  cases hok : R.1 with
  | false =>
    rw [if_neg (by decide)]
    refine x_ifge rfl (fun c => absurd c (show ¬ (0 : Int32) ≤ -1 by decide)) (fun c => ?_)
    refine x_al rfl rfl ?_
    refine x_get rfl (rw_md hn) (by exact rfl) ?_
    refine x_go rfl ?_
    rw [d1]
    refine x_putM rfl hn rfl rfl rfl (mset_10 _ _) ?_
    refine x_al rfl rfl ?_
    refine x_il rfl rfl ?_
    refine x_ifge rfl (fun c => absurd c (show ¬ (0 : Int32) ≤ -1 by decide)) (fun c => ?_)
    refine x_c rfl ?_
    refine x_go rfl ?_
    refine x_c rfl ?_
    refine x_call3 (n_throwsIf (b := true) hn) rfl (Nat.le_of_ble_eq_true rfl) (Or.inl (by first | exact hn | assumption)) (rcv_at (by first | exact rw_md hn | exact rw_w hn | exact rw_A hn (by exact rfl) | exact rw_B2 hn | exact rw_B3 hn | assumption) (by decide) (by decide)) (Nat.le_of_ble_eq_true rfl) (Nat.le_of_ble_eq_true rfl) (fun E w9 hq => hq.elim) ?_
    rintro v9 w9 ⟨rfl, rfl⟩
    refine x_ifne rfl (fun c => ?_) (fun c => absurd c (show ¬ (1 : Int32) = 0 by decide))
    rw [if_pos rfl]
    refine x_c rfl ?_
    refine x_reti rfl (Nat.le_of_ble_eq_true rfl) (Nat.le_of_ble_eq_true rfl) rfl ?_
    exact ⟨_, fx, rfl, by rw [pk_un (by decide), pk_un (by decide)]; exact q3, by rw [pk_un (by decide), pk_un (by decide)]; exact q5, Or.inr ⟨c0, fx, d3, Or.inl ⟨hok, rfl, pk_us, by rw [pk_un (by decide), pk_us], rfl⟩⟩⟩
  | true =>
    obtain ⟨e1, e2, e3⟩ := d4 hok
    rw [if_pos rfl]
    refine x_ifge rfl (fun c => ?_) (fun c => absurd (nI_pos' (show R.2.2.1.length < 2 ^ 31 by omega)) c)
    refine x_c rfl ?_
    refine x_putM rfl hn rfl rfl rfl (mset_10 _ _) ?_
    refine x_al rfl rfl ?_
    refine x_il rfl rfl ?_
    refine x_ifge rfl (fun c => ?_) (fun c => absurd (nI_pos' (show R.2.2.1.length < 2 ^ 31 by omega)) c)
    refine x_c rfl ?_
    refine x_c rfl ?_
    refine x_call3 (n_throwsIf (b := false) hn) rfl (Nat.le_of_ble_eq_true rfl) (Or.inl (by first | exact hn | assumption)) (rcv_at (by first | exact rw_md hn | exact rw_w hn | exact rw_A hn (by exact rfl) | exact rw_B2 hn | exact rw_B3 hn | assumption) (by decide) (by decide)) (Nat.le_of_ble_eq_true rfl) (Nat.le_of_ble_eq_true rfl) (fun E w9 hq => hq.elim) ?_
    rintro v9 w9 ⟨rfl, rfl⟩
    rw [if_neg (by decide)]
    refine x_ifne rfl (fun c => absurd rfl c) (fun c => ?_)
    refine x_al rfl rfl ?_
    refine x_al rfl rfl ?_
    refine x_get rfl (rw_md hn) (by exact rfl) ?_
    refine x_c rfl ?_
    refine x_iaN (j := 12825) rfl (by first | exact rw_md hn | exact rw_w hn | exact rw_A hn (by exact rfl) | exact rw_B2 hn | exact rw_B3 hn | assumption) (by omega) ?_
    rw [hc2]
    refine x_c rfl ?_
    refine x_icneN (y := 10) rfl (by omega) (fun c1 => ?_) (fun c1 => ?_)
    rotate_left
    · refine x_c rfl ?_
      refine x_go rfl ?_
      refine x_c rfl ?_
      refine x_call3 (n_throwsIf (b := true) hn) rfl (Nat.le_of_ble_eq_true rfl) (Or.inl (by first | exact hn | assumption)) (rcv_at (by first | exact rw_md hn | exact rw_w hn | exact rw_A hn (by exact rfl) | exact rw_B2 hn | exact rw_B3 hn | assumption) (by decide) (by decide)) (Nat.le_of_ble_eq_true rfl) (Nat.le_of_ble_eq_true rfl) (fun E w9 hq => hq.elim) ?_
      rintro v9 w9 ⟨rfl, rfl⟩
      rw [if_pos rfl]
      refine x_ifeq rfl (fun c => absurd c (show ¬ (1 : Int32) = 0 by decide)) (fun c => ?_)
      refine x_c rfl ?_
      refine x_reti rfl (Nat.le_of_ble_eq_true rfl) (Nat.le_of_ble_eq_true rfl) rfl ?_
      exact ⟨_, fx, rfl, by rw [pk_un (by decide), pk_un (by decide)]; exact q3, by rw [pk_un (by decide), pk_un (by decide)]; exact q5, Or.inr ⟨c0, fx, d3, Or.inr (Or.inl ⟨hok, c1, rfl, pk_us, by rw [pk_un (by decide), pk_us], rfl⟩)⟩⟩
    refine x_c rfl ?_
    refine x_c rfl ?_
    refine x_call3 (n_throwsIf (b := false) hn) rfl (Nat.le_of_ble_eq_true rfl) (Or.inl (by first | exact hn | assumption)) (rcv_at (by first | exact rw_md hn | exact rw_w hn | exact rw_A hn (by exact rfl) | exact rw_B2 hn | exact rw_B3 hn | assumption) (by decide) (by decide)) (Nat.le_of_ble_eq_true rfl) (Nat.le_of_ble_eq_true rfl) (fun E w9 hq => hq.elim) ?_
    rintro v9 w9 ⟨rfl, rfl⟩
    rw [if_neg (by decide)]
    refine x_ifeq rfl (fun c => ?_) (fun c => absurd rfl c)
    refine x_al rfl rfl ?_
    refine x_get rfl (rw_md hn) (by exact rfl) ?_
    refine x_c rfl ?_
    refine x_iaN (j := 12825) rfl (by first | exact rw_md hn | exact rw_w hn | exact rw_A hn (by exact rfl) | exact rw_B2 hn | exact rw_B3 hn | assumption) (by omega) ?_
    rw [hc2]
    refine x_is (lo' := [_, _, _, _, _]) rfl (Nat.le_of_ble_eq_true rfl) rfl ?_
    refine x_al rfl rfl ?_
    refine x_get rfl (rw_md hn) (by exact rfl) ?_
    refine x_c rfl ?_
    refine x_dup2 rfl rfl rfl ?_
    refine x_iaN (j := 12825) rfl (by first | exact rw_md hn | exact rw_w hn | exact rw_A hn (by exact rfl) | exact rw_B2 hn | exact rw_B3 hn | assumption) (by omega) ?_
    rw [hc2]
    refine x_c rfl ?_
    refine x_addN (y := 1) rfl ?_
    first | refine x_iasW (j := 12825) rfl hn (by omega) ?_ | refine x_iasA (j := 12825) rfl hn (by exact rfl) (by omega) ?_
    refine x_c rfl ?_
    refine x_is (lo' := [_, _, _, _, _]) rfl (Nat.le_of_ble_eq_true rfl) rfl ?_
    have loop : ∀ k, k ≤ 850 → EX g mbOf (Ev g (d + 32)) (infoOf 256) k_X11_rules (RuQ w m f A B R nt day) noX w.1 (rW w (upd m2 10 (-1)) (cpT nt (upd fx 12825 (nI (nt + 1))) k) A B) 0 0 67 [some (.ref 1424), some (.int day), some (.int (nI R.2.2.1.length)), some (.int (nI nt)), some (.int (nI k))] [] := by
      refine downN 850 fun k hk ih => ?_
      refine x_il rfl rfl ?_
      refine x_c rfl ?_
      refine x_icgeN (y := 850) rfl (by omega) (fun c2 => ?_) (fun c2 => ?_)
      · refine x_al rfl rfl ?_
        refine x_get rfl (rw_md hn) (by exact rfl) ?_
        refine x_il rfl rfl ?_
        obtain rfl : k = 850 := by omega
        refine x_call1 (m_textAt) rfl (Nat.le_of_ble_eq_true rfl) (Or.inl (by first | exact hn | assumption)) trivial (Nat.le_of_ble_eq_true rfl) (Nat.le_of_ble_eq_true rfl) (fun E w9 hq => hq.elim) ?_
        rintro v9 w9 ⟨rfl, rfl⟩
        refine x_il rfl rfl ?_
        first | refine x_iasW rfl hn (by omega) ?_ | refine x_iasA rfl hn (by exact rfl) (by omega) ?_
        refine x_al rfl rfl ?_
        refine x_get rfl (rw_md hn) (by exact rfl) ?_
        refine x_il rfl rfl ?_
        refine x_call1 (m_textAt) rfl (Nat.le_of_ble_eq_true rfl) (Or.inl (by first | exact hn | assumption)) trivial (Nat.le_of_ble_eq_true rfl) (Nat.le_of_ble_eq_true rfl) (fun E w9 hq => hq.elim) ?_
        rintro v9 w9 ⟨rfl, rfl⟩
        refine x_c rfl ?_
        refine x_addN (y := 1) rfl ?_
        refine x_il rfl rfl ?_
        first | refine x_iasW rfl hn (by omega) ?_ | refine x_iasA rfl hn (by exact rfl) (by omega) ?_
        refine x_il rfl rfl ?_
        refine x_reti rfl (Nat.le_of_ble_eq_true rfl) (Nat.le_of_ble_eq_true rfl) rfl ?_
        exact ⟨_, _, rfl, by rw [pk_un (by decide)]; exact q3, by rw [pk_un (by decide)]; exact q5, Or.inr ⟨c0, fx, d3, Or.inr (Or.inr ⟨hok, c1, rfl, by rw [pk_un (by decide)]; exact q0, pk_us, e1, e2, e3, rfl⟩)⟩⟩
      refine x_al rfl rfl ?_
      refine x_get rfl (rw_md hn) (by exact rfl) ?_
      refine x_il rfl rfl ?_
      refine x_call1 (m_textAt) rfl (Nat.le_of_ble_eq_true rfl) (Or.inl (by first | exact hn | assumption)) trivial (Nat.le_of_ble_eq_true rfl) (Nat.le_of_ble_eq_true rfl) (fun E w9 hq => hq.elim) ?_
      rintro v9 w9 ⟨rfl, rfl⟩
      refine x_il rfl rfl ?_
      refine x_addN rfl ?_
      refine x_al rfl rfl ?_
      refine x_get rfl (rw_md hn) (by exact rfl) ?_
      refine x_c rfl ?_
      refine x_call1 (m_textAt (p := 10)) rfl (Nat.le_of_ble_eq_true rfl) (Or.inl (by first | exact hn | assumption)) trivial (Nat.le_of_ble_eq_true rfl) (Nat.le_of_ble_eq_true rfl) (fun E w9 hq => hq.elim) ?_
      rintro v9 w9 ⟨rfl, rfl⟩
      refine x_il rfl rfl ?_
      refine x_addN rfl ?_
      refine x_iaN rfl (by first | exact rw_md hn | exact rw_w hn | exact rw_A hn (by exact rfl) | exact rw_B2 hn | exact rw_B3 hn | assumption) (by omega) ?_
      first | refine x_iasW rfl hn (by omega) ?_ | refine x_iasA rfl hn (by exact rfl) (by omega) ?_
      refine x_inc1 (lo' := [_, _, _, _, _]) rfl rfl rfl ?_
      refine x_go rfl ?_
      rw [show 12826 + 850 * 10 + k = 21326 + k by omega]
      exact ih c2
    exact loop 0 (Nat.zero_le _)
end CALLS
