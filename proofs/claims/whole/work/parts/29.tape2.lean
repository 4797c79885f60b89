/-! the reference's tape: t its bytes, point p, begin b, end en -/
def tp (m : Nat → Int32) (p b : Nat) : Nat → Int32 := upd (upd m 6 (nI p)) 8 (nI b)
def Tp (m : Nat → Int32) (pt en : Nat) : Prop := m 6 = nI pt ∧ m 7 = nI en ∧ pt ≤ en ∧ en ≤ 400
theorem tp_6 {m : Nat → Int32} {p b : Nat} : tp m p b 6 = nI p := rfl
theorem tp_8 {m : Nat → Int32} {p b : Nat} : tp m p b 8 = nI b := rfl
theorem tp_u6 {m : Nat → Int32} {p b p' : Nat} : upd (tp m p b) 6 (nI p') = tp m p' b := by
  funext j; unfold tp upd; by_cases h : j = 8 <;> by_cases h6 : j = 6 <;> simp [h, h6]
theorem tp_u8 {m : Nat → Int32} {p b b' : Nat} : upd (tp m p b) 8 (nI b') = tp m p b' := by
  funext j; unfold tp upd; by_cases h : j = 8 <;> by_cases h6 : j = 6 <;> simp [h, h6]
theorem tp_inc {m : Nat → Int32} {p b : Nat} : upd (tp m p b) 6 (tp m p b 6 + 1) = tp m (p + 1) b := by
  rw [tp_6, show nI p + 1 = nI (p + 1) from nI_add p 1, tp_u6]
theorem tp_tp {m : Nat → Int32} {p b p' b' : Nat} : tp (tp m p b) p' b' = tp m p' b' := by
  funext j; unfold tp upd; by_cases h : j = 8 <;> by_cases h6 : j = 6 <;> simp [h, h6]
theorem tp_o {m : Nat → Int32} {p b j : Nat} (h : j ≠ 6 ∧ j ≠ 8) : tp m p b j = m j := by
  unfold tp upd; rw [if_neg h.2, if_neg h.1]
theorem Tp.tp {m : Nat → Int32} {pt en p b : Nat} (h : Tp m pt en) (hp : p ≤ en) : Tp (tp m p b) p en := ⟨rfl, by rw [tp_o (by decide)]; exact h.2.1, hp, h.2.2.2⟩
theorem Tp.self {m : Nat → Int32} {pt en : Nat} (h : Tp m pt en) : ∃ m0, m = upd m0 6 (nI pt) := ⟨m, by funext j; unfold upd; split <;> simp_all [h.1]⟩
theorem u6_u6 {m : Nat → Int32} {a b : Int32} : upd (upd m 6 a) 6 b = upd m 6 b := by
  funext j; unfold upd; by_cases h : j = 6 <;> simp [h]
theorem u6_8 {m : Nat → Int32} {p b : Nat} : upd (upd m 6 (nI p)) 8 (nI b) = tp m p b := rfl
def runF (t : Nat → Int32) (en : Nat) (x y : Int32) : Nat → Nat → Nat
  | 0, p => p
  | k + 1, p => if p < en ∧ x ≤ t p ∧ t p ≤ y then runF t en x y k (p + 1) else p
def runs (t : Nat → Int32) (en : Nat) (x y : Int32) (p : Nat) : Nat := runF t en x y (en - p) p
theorem runs_t {t : Nat → Int32} {en p : Nat} {x y : Int32} (h : p < en ∧ x ≤ t p ∧ t p ≤ y) : runs t en x y p = runs t en x y (p + 1) := by
  unfold runs
  rw [show en - p = (en - (p + 1)) + 1 by omega]
  show (if p < en ∧ x ≤ t p ∧ t p ≤ y then _ else _) = _
  rw [if_pos h]
theorem runs_f {t : Nat → Int32} {en p : Nat} {x y : Int32} (h : ¬ (p < en ∧ x ≤ t p ∧ t p ≤ y)) : runs t en x y p = p := by
  unfold runs
  cases hk : en - p with
  | zero => rfl
  | succ k =>
    show (if p < en ∧ x ≤ t p ∧ t p ≤ y then _ else _) = _
    rw [if_neg h]
theorem runF_le {t : Nat → Int32} {en : Nat} {x y : Int32} : ∀ k p, p ≤ runF t en x y k p ∧ (p ≤ en → runF t en x y k p ≤ en) := by
  intro k
  induction k with
  | zero => intro p; exact ⟨Nat.le_refl _, fun h => h⟩
  | succ k ih =>
    intro p
    unfold runF
    split
    · rename_i h
      have := ih (p + 1)
      exact ⟨by omega, fun _ => this.2 (by omega)⟩
    · exact ⟨Nat.le_refl _, fun h => h⟩
theorem runs_ge {t : Nat → Int32} {en p : Nat} {x y : Int32} : p ≤ runs t en x y p := (runF_le _ _).1
theorem runs_le {t : Nat → Int32} {en p : Nat} {x y : Int32} (h : p ≤ en) : runs t en x y p ≤ en := (runF_le _ _).2 h
section TAPE
variable {g : aG} {d : Nat} {w : aW} {m f : Nat → Int32} {A : Nat → Nat → Int32} {B : Nat → Nat → Int64} {pt en : Nat}
theorem n_isAt {x y : Int32} (h : Tp m pt en) (hn : w.1 = N0) : Ev g (d + 1) 187 [.ref 1424, .int x, .int y] (rW w m f A B) (RetQ (bI (decide (pt < en ∧ x ≤ A 1427 pt ∧ A 1427 pt ≤ y))) (rW w m f A B)) noX :=
  m_isAt (a := mdV m) (L := 400) ⟨rw_md hn, rfl, rw_A hn (by exact rfl), congrArg Value.int h.1, congrArg Value.int h.2.1, h.2.2.2, by decide, h.2.2.1⟩
theorem m_tp (h : Tp m pt en) : m = upd m 6 (nI pt) := by
  funext j; unfold upd; split
  · rename_i e; rw [e]; exact h.1
  · rfl
theorem n_blanks (h : Tp m pt en) (hn : w.1 = N0) : Ev g (d + 2) 188 [.ref 1424] (rW w m f A B) (VoidQ (rW w (tp m (runs (A 1427) en 32 32 pt) (runs (A 1427) en 32 32 pt)) f A B)) noX := by
  refine ev_X11_blanks ?_ (Nat.le_of_ble_eq_true rfl)
  refine x_lo (lo' := [some (.ref 1424)]) rfl ?_
  have loop : ∀ p, p ≤ en → EX g mbOf (Ev g (d + 1)) (infoOf 188) k_X11_blanks (VoidQ (rW w (tp m (runs (A 1427) en 32 32 p) (runs (A 1427) en 32 32 p)) f A B)) noX w.1 (rW w (upd m 6 (nI p)) f A B) 0 0 0 [some (.ref 1424)] [] := by
    refine downN en fun p hp ih => ?_
    refine x_al rfl rfl ?_
    refine x_c rfl ?_
    refine x_c rfl ?_
    refine x_call3 (n_isAt (pt := p) (en := en) ⟨rfl, h.2.1, hp, h.2.2.2⟩ hn) rfl (Nat.le_of_ble_eq_true rfl) (Or.inl (by first | exact hn | assumption)) (rcv_at (by first | exact rw_md hn | exact rw_w hn | exact rw_A hn (by exact rfl) | exact rw_B2 hn | exact rw_B3 hn | assumption) (by decide) (by decide)) (Nat.le_of_ble_eq_true rfl) (Nat.le_of_ble_eq_true rfl) (fun E w9 hq => hq.elim) ?_
    rintro v9 w9 ⟨rfl, rfl⟩
    refine x_ifeqB rfl (fun c => ?_) (fun c => ?_)
    · refine x_al rfl rfl ?_
      refine x_al rfl rfl ?_
      refine x_get rfl (rw_md hn) (by exact rfl) ?_
      refine x_putM rfl hn rfl rfl rfl rfl ?_
      refine x_retv rfl (Nat.le_of_ble_eq_true rfl) (Nat.le_of_ble_eq_true rfl) rfl ?_
      rw [runs_f c]
      exact ⟨rfl, rfl⟩
    refine x_al rfl rfl ?_
    refine x_dup rfl rfl ?_
    refine x_get rfl (rw_md hn) (by exact rfl) ?_
    refine x_c rfl ?_
    refine x_add rfl ?_
    refine x_putM rfl hn rfl rfl rfl rfl ?_
    refine x_go rfl ?_
    rw [runs_t c]
    rw [show upd m 6 (nI p) 6 + 1 = nI (p + 1) from nI_add p 1, u6_u6]
    exact ih c.1
  have := loop pt h.2.2.1
  rw [← m_tp h] at this
  exact this
theorem n_word (h : Tp m pt en) (hn : w.1 = N0) : Ev g (d + 3) 189 [.ref 1424] (rW w m f A B) (VoidQ (rW w (tp m (runs (A 1427) en 97 122 (runs (A 1427) en 32 32 pt)) (runs (A 1427) en 32 32 pt)) f A B)) noX := by
  refine ev_X11_word ?_ (Nat.le_of_ble_eq_true rfl)
  refine x_lo (lo' := [some (.ref 1424)]) rfl ?_
  refine x_al rfl rfl ?_
  refine x_call1 (n_blanks h hn) rfl (Nat.le_of_ble_eq_true rfl) (Or.inl (by first | exact hn | assumption)) (rcv_at (by first | exact rw_md hn | exact rw_w hn | exact rw_A hn (by exact rfl) | exact rw_B2 hn | exact rw_B3 hn | assumption) (by decide) (by decide)) (Nat.le_of_ble_eq_true rfl) (Nat.le_of_ble_eq_true rfl) (fun E w9 hq => hq.elim) ?_
  rintro v9 w9 ⟨rfl, rfl⟩
  generalize hb : runs (A 1427) en 32 32 pt = b
  have hbe : b ≤ en := by rw [← hb]; exact runs_le h.2.2.1
  have loop : ∀ p, p ≤ en → EX g mbOf (Ev g (d + 2)) (infoOf 189) k_X11_word (VoidQ (rW w (tp m (runs (A 1427) en 97 122 p) b) f A B)) noX w.1 (rW w (tp m p b) f A B) 0 0 2 [some (.ref 1424)] [] := by
    refine downN en fun p hp ih => ?_
    refine x_al rfl rfl ?_
    refine x_c rfl ?_
    refine x_c rfl ?_
    refine x_call3 (n_isAt (h.tp hp) hn) rfl (Nat.le_of_ble_eq_true rfl) (Or.inl (by first | exact hn | assumption)) (rcv_at (by first | exact rw_md hn | exact rw_w hn | exact rw_A hn (by exact rfl) | exact rw_B2 hn | exact rw_B3 hn | assumption) (by decide) (by decide)) (Nat.le_of_ble_eq_true rfl) (Nat.le_of_ble_eq_true rfl) (fun E w9 hq => hq.elim) ?_
    rintro v9 w9 ⟨rfl, rfl⟩
    refine x_ifeqB rfl (fun c => ?_) (fun c => ?_)
    · refine x_retv rfl (Nat.le_of_ble_eq_true rfl) (Nat.le_of_ble_eq_true rfl) rfl ?_
      rw [runs_f c]
      exact ⟨rfl, rfl⟩
    refine x_al rfl rfl ?_
    refine x_dup rfl rfl ?_
    refine x_get rfl (rw_md hn) (by exact rfl) ?_
    refine x_c rfl ?_
    refine x_add rfl ?_
    refine x_putM rfl hn rfl rfl rfl rfl ?_
    refine x_go rfl ?_
    rw [runs_t c]
    first | rw [tp_u6] | rw [tp_inc]
    exact ih c.1
  exact loop b hbe
/-- whether the sign c comes next -/
def sgn (t : Nat → Int32) (en pt : Nat) (c : Int32) : Prop := runs t en 32 32 pt < en ∧ c ≤ t (runs t en 32 32 pt) ∧ t (runs t en 32 32 pt) ≤ c
theorem n_sign {c : Int32} (h : Tp m pt en) (hn : w.1 = N0) : Ev g (d + 3) 192 [.ref 1424, .int c] (rW w m f A B) (fun v w' => (sgn (A 1427) en pt c ∧ v = some (.int 1) ∧ w' = rW w (tp m (runs (A 1427) en 32 32 pt + 1) (runs (A 1427) en 32 32 pt)) f A B) ∨ (¬ sgn (A 1427) en pt c ∧ v = some (.int 0) ∧ w' = rW w (tp m (runs (A 1427) en 32 32 pt) (runs (A 1427) en 32 32 pt)) f A B)) noX := by
  refine ev_X11_sign ?_ (Nat.le_of_ble_eq_true rfl)
  refine x_lo (lo' := [some (.ref 1424), some (.int c)]) rfl ?_
  refine x_al rfl rfl ?_
  refine x_call1 (n_blanks h hn) rfl (Nat.le_of_ble_eq_true rfl) (Or.inl (by first | exact hn | assumption)) (rcv_at (by first | exact rw_md hn | exact rw_w hn | exact rw_A hn (by exact rfl) | exact rw_B2 hn | exact rw_B3 hn | assumption) (by decide) (by decide)) (Nat.le_of_ble_eq_true rfl) (Nat.le_of_ble_eq_true rfl) (fun E w9 hq => hq.elim) ?_
  rintro v9 w9 ⟨rfl, rfl⟩
  refine x_al rfl rfl ?_
  refine x_il rfl rfl ?_
  refine x_il rfl rfl ?_
  refine x_call3 (n_isAt (h.tp (runs_le h.2.2.1)) hn) rfl (Nat.le_of_ble_eq_true rfl) (Or.inl (by first | exact hn | assumption)) (rcv_at (by first | exact rw_md hn | exact rw_w hn | exact rw_A hn (by exact rfl) | exact rw_B2 hn | exact rw_B3 hn | assumption) (by decide) (by decide)) (Nat.le_of_ble_eq_true rfl) (Nat.le_of_ble_eq_true rfl) (fun E w9 hq => hq.elim) ?_
  rintro v9 w9 ⟨rfl, rfl⟩
  refine x_ifneB rfl (fun hc => ?_) (fun hc => ?_)
  · refine x_al rfl rfl ?_
    refine x_dup rfl rfl ?_
    refine x_get rfl (rw_md hn) (by exact rfl) ?_
    refine x_c rfl ?_
    refine x_add rfl ?_
    refine x_putM rfl hn rfl rfl rfl rfl ?_
    refine x_c rfl ?_
    refine x_retz rfl (Nat.le_of_ble_eq_true rfl) (Nat.le_of_ble_eq_true rfl) rfl (by first | rfl | assumption) ?_
    exact Or.inl ⟨hc, rfl, by first | rw [tp_u6] | rw [tp_inc]⟩
  refine x_c rfl ?_
  refine x_retz rfl (Nat.le_of_ble_eq_true rfl) (Nat.le_of_ble_eq_true rfl) rfl (by first | rfl | assumption) ?_
  exact Or.inr ⟨hc, rfl, rfl⟩
/-- the number whose digits begin at b: what is kept of the first p - b + k of them -/
def numF (t : Nat → Int32) (en b : Nat) : Nat → Nat → Int32 → Int32
  | 0, _, v => v
  | k + 1, p, v => if p < en ∧ 48 ≤ t p ∧ t p ≤ 57 then numF t en b k (p + 1) (if p - b < 4 then 10 * v + t p - 48 else v) else v
def num (t : Nat → Int32) (en b p : Nat) (v : Int32) : Int32 := numF t en b (en - p) p v
theorem num_t {t : Nat → Int32} {en b p : Nat} {v : Int32} (h : p < en ∧ 48 ≤ t p ∧ t p ≤ 57) : num t en b p v = num t en b (p + 1) (if p - b < 4 then 10 * v + t p - 48 else v) := by
  unfold num
  rw [show en - p = (en - (p + 1)) + 1 by omega]
  show (if p < en ∧ 48 ≤ t p ∧ t p ≤ 57 then _ else _) = _
  rw [if_pos h]
theorem num_f {t : Nat → Int32} {en b p : Nat} {v : Int32} (h : ¬ (p < en ∧ 48 ≤ t p ∧ t p ≤ 57)) : num t en b p v = v := by
  unfold num
  cases hk : en - p with
  | zero => rfl
  | succ k =>
    show (if p < en ∧ 48 ≤ t p ∧ t p ≤ 57 then _ else _) = _
    rw [if_neg h]
/-- what number answers, its digits from b to e -/
def numR (t : Nat → Int32) (en b : Nat) (low high : Int32) : Int32 := if runs t en 48 57 b = b ∨ 4 < runs t en 48 57 b - b ∨ num t en b b 0 < low ∨ high < num t en b b 0 then -1 else num t en b b 0
theorem n_number {low high : Int32} (h : Tp m pt en) (hn : w.1 = N0) : Ev g (d + 3) 193 [.ref 1424, .int low, .int high] (rW w m f A B) (RetQ (numR (A 1427) en (runs (A 1427) en 32 32 pt) low high) (rW w (tp m (runs (A 1427) en 48 57 (runs (A 1427) en 32 32 pt)) (runs (A 1427) en 32 32 pt)) f A B)) noX := by
  have hen := h.2.2.2
  refine ev_X11_number ?_ (Nat.le_of_ble_eq_true rfl)
  refine x_lo (lo' := [some (.ref 1424), some (.int low), some (.int high), none]) rfl ?_
  refine x_al rfl rfl ?_
  refine x_call1 (n_blanks h hn) rfl (Nat.le_of_ble_eq_true rfl) (Or.inl (by first | exact hn | assumption)) (rcv_at (by first | exact rw_md hn | exact rw_w hn | exact rw_A hn (by exact rfl) | exact rw_B2 hn | exact rw_B3 hn | assumption) (by decide) (by decide)) (Nat.le_of_ble_eq_true rfl) (Nat.le_of_ble_eq_true rfl) (fun E w9 hq => hq.elim) ?_
  rintro v9 w9 ⟨rfl, rfl⟩
  refine x_c rfl ?_
  refine x_is (lo' := [_, _, _, _]) rfl (Nat.le_of_ble_eq_true rfl) rfl ?_
  generalize hb : runs (A 1427) en 32 32 pt = b
  have hbe : b ≤ en := by rw [← hb]; exact runs_le h.2.2.1
  have loop : ∀ p, p ≤ en → b ≤ p → ∀ v, runs (A 1427) en 48 57 p = runs (A 1427) en 48 57 b → num (A 1427) en b p v = num (A 1427) en b b 0 → EX g mbOf (Ev g (d + 2)) (infoOf 193) k_X11_number (RetQ (numR (A 1427) en b low high) (rW w (tp m (runs (A 1427) en 48 57 b) b) f A B)) noX w.1 (rW w (tp m p b) f A B) 0 0 4 [some (.ref 1424), some (.int low), some (.int high), some (.int v)] [] := by
    refine downN en fun p hp ih => ?_
    intro hbp v e1 e2
    refine x_al rfl rfl ?_
    refine x_c rfl ?_
    refine x_c rfl ?_
    refine x_call3 (n_isAt (h.tp hp) hn) rfl (Nat.le_of_ble_eq_true rfl) (Or.inl (by first | exact hn | assumption)) (rcv_at (by first | exact rw_md hn | exact rw_w hn | exact rw_A hn (by exact rfl) | exact rw_B2 hn | exact rw_B3 hn | assumption) (by decide) (by decide)) (Nat.le_of_ble_eq_true rfl) (Nat.le_of_ble_eq_true rfl) (fun E w9 hq => hq.elim) ?_
    rintro v9 w9 ⟨rfl, rfl⟩
    refine x_ifeqB rfl (fun c => ?_) (fun c => ?_)
    · refine x_al rfl rfl ?_
      refine x_get rfl (rw_md hn) (by exact rfl) ?_
      refine x_al rfl rfl ?_
      refine x_get rfl (rw_md hn) (by exact rfl) ?_
      rw [runs_f c] at e1
      rw [num_f c] at e2
      have hR : numR (A 1427) en b low high = if p = b ∨ 4 < p - b ∨ v < low ∨ high < v then -1 else v := by unfold numR; rw [← e1, ← e2]
      rw [← e1, hR]
      rw [tp_6, tp_8]
      refine x_iceqN rfl (by omega) (fun c1 => ?_) (fun c1 => ?_)
      · refine x_c rfl ?_
        refine x_go rfl ?_
        refine x_reti rfl (Nat.le_of_ble_eq_true rfl) (Nat.le_of_ble_eq_true rfl) rfl ?_
        exact ⟨by rw [if_pos (Or.inl c1)], rfl⟩
      refine x_al rfl rfl ?_
      refine x_get rfl (rw_md hn) (by exact rfl) ?_
      refine x_al rfl rfl ?_
      refine x_get rfl (rw_md hn) (by exact rfl) ?_
      rw [tp_6, tp_8]
      first | refine x_subN rfl (by omega) ?_ | refine x_sub rfl ?_
      refine x_c rfl ?_
      refine x_icgtN (y := 4) rfl (by omega) (fun c2 => ?_) (fun c2 => ?_)
      · refine x_c rfl ?_
        refine x_go rfl ?_
        refine x_reti rfl (Nat.le_of_ble_eq_true rfl) (Nat.le_of_ble_eq_true rfl) rfl ?_
        exact ⟨by rw [if_pos (Or.inr (Or.inl c2))], rfl⟩
      refine x_il rfl rfl ?_
      refine x_il rfl rfl ?_
      refine x_iclt rfl (fun c3 => ?_) (fun c3 => ?_)
      · refine x_c rfl ?_
        refine x_go rfl ?_
        refine x_reti rfl (Nat.le_of_ble_eq_true rfl) (Nat.le_of_ble_eq_true rfl) rfl ?_
        exact ⟨by rw [if_pos (Or.inr (Or.inr (Or.inl c3)))], rfl⟩
      refine x_il rfl rfl ?_
      refine x_il rfl rfl ?_
      refine x_icle rfl (fun c4 => ?_) (fun c4 => ?_)
      · refine x_il rfl rfl ?_
        refine x_reti rfl (Nat.le_of_ble_eq_true rfl) (Nat.le_of_ble_eq_true rfl) rfl ?_
        exact ⟨by rw [if_neg (by rintro (h1 | h1 | h1 | h1); exact c1 h1; omega; exact c3 h1; exact absurd c4 (Int32.not_le.mpr h1))], rfl⟩
      refine x_c rfl ?_
      refine x_go rfl ?_
      refine x_reti rfl (Nat.le_of_ble_eq_true rfl) (Nat.le_of_ble_eq_true rfl) rfl ?_
      exact ⟨by rw [if_pos (Or.inr (Or.inr (Or.inr (Int32.not_le.mp c4))))], rfl⟩
    refine x_al rfl rfl ?_
    refine x_get rfl (rw_md hn) (by exact rfl) ?_
    refine x_al rfl rfl ?_
    refine x_get rfl (rw_md hn) (by exact rfl) ?_
    rw [runs_t c] at e1
    rw [num_t c] at e2
    rw [tp_6, tp_8]
    first | refine x_subN rfl (by omega) ?_ | refine x_sub rfl ?_
    refine x_c rfl ?_
    refine x_icgeN (y := 4) rfl (by omega) (fun c2 => ?_) (fun c2 => ?_)
    · refine x_il rfl rfl ?_
      refine x_is (lo' := [_, _, _, _]) rfl (Nat.le_of_ble_eq_true rfl) rfl ?_
      refine x_al rfl rfl ?_
      refine x_dup rfl rfl ?_
      refine x_get rfl (rw_md hn) (by exact rfl) ?_
      refine x_c rfl ?_
      refine x_add rfl ?_
      refine x_putM rfl hn rfl rfl rfl rfl ?_
      refine x_go rfl ?_
      rw [if_neg (by omega)] at e2
      first | rw [tp_u6] | rw [tp_inc]
      exact ih c.1 (by omega) v e1 e2
    refine x_c rfl ?_
    refine x_il rfl rfl ?_
    refine x_mul rfl ?_
    refine x_al rfl rfl ?_
    refine x_get rfl (rw_md hn) (by exact rfl) ?_
    refine x_al rfl rfl ?_
    refine x_get rfl (rw_md hn) (by exact rfl) ?_
    first | refine x_baN rfl (rw_A hn (by exact rfl)) (by omega) ?_ | refine x_zaN rfl (by first | exact rw_md hn | exact rw_w hn | exact rw_A hn (by exact rfl) | exact rw_B2 hn | exact rw_B3 hn | assumption) (by omega) ?_
    refine x_add rfl ?_
    refine x_c rfl ?_
    refine x_sub rfl ?_
    refine x_go rfl ?_
    refine x_is (lo' := [_, _, _, _]) rfl (Nat.le_of_ble_eq_true rfl) rfl ?_
    refine x_al rfl rfl ?_
    refine x_dup rfl rfl ?_
    refine x_get rfl (rw_md hn) (by exact rfl) ?_
    refine x_c rfl ?_
    refine x_add rfl ?_
    refine x_putM rfl hn rfl rfl rfl rfl ?_
    refine x_go rfl ?_
    rw [if_pos c2] at e2
    first | rw [tp_u6] | rw [tp_inc]
    exact ih c.1 (by omega) _ e1 e2
  exact loop b hbe (Nat.le_refl _) 0 rfl rfl
/-- whether the word from b to p is fs, of length n -/
def isW (t : Nat → Int32) (p b n : Nat) (fs : Nat → Int32) : Prop := p - b = n ∧ ∀ j, j < n → t (b + j) = fs j
theorem n_isWord {k n p b : Nat} {fs : Nat → Int32} (h6 : m 6 = nI p) (h8 : m 8 = nI b) (hb : b ≤ p) (hp : p ≤ 400) (hTx : TxAt g k n fs) (hz : (g.2 3).category = 1) (hf : ∀ j, j < n → fs j &&& 255 = fs j) (hn : w.1 = N0) : Ev g (d + 5) 190 [.ref 1424, .ref (FB + k)] (rW w m f A B) (fun v w' => ((isW (A 1427) p b n fs ∧ v = some (.int 1)) ∨ (¬ isW (A 1427) p b n fs ∧ v = some (.int 0))) ∧ w' = rW w m f A B) noX := by
  have hnn := hTx.2.2.1
  refine ev_X11_isWord ?_ (Nat.le_of_ble_eq_true rfl)
  refine x_lo (lo' := [some (.ref 1424), some (.ref (FB + k)), none, none]) rfl ?_
  refine x_al rfl rfl ?_
  refine x_get rfl (rw_md hn) (by exact rfl) ?_
  refine x_al rfl rfl ?_
  refine x_get rfl (rw_md hn) (by exact rfl) ?_
  rw [h6, h8]
  first | refine x_subN rfl (by omega) ?_ | refine x_sub rfl ?_
  refine x_al rfl rfl ?_
  refine x_call1 (m_length hTx hn) rfl (Nat.le_of_ble_eq_true rfl) (Or.inl (by first | exact hn | assumption)) (by first | exact h.rcv | exact hTx.rcv) (Nat.le_of_ble_eq_true rfl) (Nat.le_of_ble_eq_true rfl) (fun E w9 hq => hq.elim) ?_
  rintro v9 w9 ⟨rfl, rfl⟩
  have loop : ∀ r, r ≤ n → p - b = n → (∀ j, j < r → A 1427 (b + j) = fs j) → EX g mbOf (Ev g (d + 4)) (infoOf 190) k_X11_isWord (fun v w' => ((isW (A 1427) p b n fs ∧ v = some (.int 1)) ∨ (¬ isW (A 1427) p b n fs ∧ v = some (.int 0))) ∧ w' = rW w m f A B) noX w.1 (rW w m f A B) 0 0 14 [some (.ref 1424), some (.ref (FB + k)), some (.int 1), some (.int (nI r))] [] := by
    refine downN n fun r hr ih hpb hj => ?_
    refine x_il rfl rfl ?_
    refine x_ifeq rfl (fun c => absurd c (by decide)) (fun c => ?_)
    refine x_il rfl rfl ?_
    refine x_al rfl rfl ?_
    refine x_call1 (m_length hTx hn) rfl (Nat.le_of_ble_eq_true rfl) (Or.inl (by first | exact hn | assumption)) (by first | exact h.rcv | exact hTx.rcv) (Nat.le_of_ble_eq_true rfl) (Nat.le_of_ble_eq_true rfl) (fun E w9 hq => hq.elim) ?_
    rintro v9 w9 ⟨rfl, rfl⟩
    refine x_icgeN rfl (by omega) (fun c => ?_) (fun c => ?_)
    · refine x_il rfl rfl ?_
      refine x_retz rfl (Nat.le_of_ble_eq_true rfl) (Nat.le_of_ble_eq_true rfl) rfl (by first | rfl | assumption) ?_
      exact ⟨Or.inl ⟨⟨hpb, fun j hjn => hj j (by omega)⟩, rfl⟩, rfl⟩
    refine x_al rfl rfl ?_
    refine x_get rfl (rw_md hn) (by exact rfl) ?_
    refine x_al rfl rfl ?_
    refine x_get rfl (rw_md hn) (by exact rfl) ?_
    refine x_il rfl rfl ?_
    rw [h8]
    refine x_addN rfl ?_
    first | refine x_baN rfl (rw_A hn (by exact rfl)) (by omega) ?_ | refine x_zaN rfl (by first | exact rw_md hn | exact rw_w hn | exact rw_A hn (by exact rfl) | exact rw_B2 hn | exact rw_B3 hn | assumption) (by omega) ?_
    refine x_al rfl rfl ?_
    refine x_il rfl rfl ?_
    refine x_call2 (m_charAt hTx hz c hn (hf r c)) rfl (Nat.le_of_ble_eq_true rfl) (Or.inl (by first | exact hn | assumption)) (by first | exact h.rcv | exact hTx.rcv) (Nat.le_of_ble_eq_true rfl) (Nat.le_of_ble_eq_true rfl) (fun E w9 hq => hq.elim) ?_
    rintro v9 w9 ⟨rfl, rfl⟩
    refine x_icne rfl (fun c2 => ?_) (fun c2 => ?_)
    · refine x_c rfl ?_
      refine x_is (lo' := [_, _, _, _]) rfl (Nat.le_of_ble_eq_true rfl) rfl ?_
      refine x_inc1 (lo' := [_, _, _, _]) rfl rfl rfl ?_
      refine x_go rfl ?_
      refine x_il rfl rfl ?_
      refine x_ifeq rfl (fun c => ?_) (fun c => absurd rfl c)
      refine x_il rfl rfl ?_
      refine x_retz rfl (Nat.le_of_ble_eq_true rfl) (Nat.le_of_ble_eq_true rfl) rfl (by first | rfl | assumption) ?_
      refine ⟨Or.inr ⟨fun h => c2 (h.2 r (by omega)), rfl⟩, rfl⟩
    refine x_c rfl ?_
    refine x_go rfl ?_
    refine x_is (lo' := [_, _, _, _]) rfl (Nat.le_of_ble_eq_true rfl) rfl ?_
    refine x_inc1 (lo' := [_, _, _, _]) rfl rfl rfl ?_
    refine x_go rfl ?_
    refine ih c hpb (fun j hjr => ?_)
    rcases Nat.lt_or_ge j r with h1 | h1
    · exact hj j h1
    · rw [show j = r by omega]; exact c2
  refine x_icneN rfl (by omega) (fun c0 => ?_) (fun c0 => ?_)
  · refine x_c rfl ?_
    refine x_is (lo' := [_, _, _, _]) rfl (Nat.le_of_ble_eq_true rfl) rfl ?_
    refine x_c rfl ?_
    refine x_is (lo' := [_, _, _, _]) rfl (Nat.le_of_ble_eq_true rfl) rfl ?_
    refine x_il rfl rfl ?_
    refine x_ifeq rfl (fun c => ?_) (fun c => absurd rfl c)
    refine x_il rfl rfl ?_
    refine x_retz rfl (Nat.le_of_ble_eq_true rfl) (Nat.le_of_ble_eq_true rfl) rfl (by first | rfl | assumption) ?_
    exact ⟨Or.inr ⟨fun h => c0 h.1, rfl⟩, rfl⟩
  refine x_c rfl ?_
  refine x_go rfl ?_
  refine x_is (lo' := [_, _, _, _]) rfl (Nat.le_of_ble_eq_true rfl) rfl ?_
  refine x_c rfl ?_
  refine x_is (lo' := [_, _, _, _]) rfl (Nat.le_of_ble_eq_true rfl) rfl ?_
  exact loop 0 (Nat.zero_le _) c0 (fun j hj => absurd hj (Nat.not_lt_zero _))
end TAPE
