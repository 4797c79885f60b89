/-! ridges and class of a print -/
def aX (x : Int32) : Int32 := if x < 0 then 0 else if x < 4 then x else if x < 6 then 3 else 8 - x
def aY (x : Int32) : Int32 := if x < 0 then 0 else if x = 0 then 3 else if x < 5 then 4 - x else x - 4
def smI (h : Nat → Int32) (a : Nat) : Nat → Int32
  | 0 => 0
  | k + 1 => smI h a k + h (a + k)
/-- the sum of h from a up to b, b left out -/
def rng (h : Nat → Int32) (a b : Nat) : Int32 := smI h a (b - a)
theorem smI_lo (h : Nat → Int32) (a k : Nat) : smI h a (k + 1) = h a + smI h (a + 1) k := by
  induction k with
  | zero => show 0 + h (a + 0) = h a + 0; rw [Int32.zero_add, Int32.add_zero]; rfl
  | succ k ih =>
    show smI h a (k + 1) + h (a + (k + 1)) = h a + (smI h (a + 1) k + h (a + 1 + k))
    rw [ih, Int32.add_assoc, show a + 1 + k = a + (k + 1) by omega]
theorem rng_lo (h : Nat → Int32) {a b : Nat} (hab : a < b) : rng h a b = h a + rng h (a + 1) b := by
  unfold rng; rw [show b - a = (b - (a + 1)) + 1 by omega, smI_lo]
theorem rng_hi (h : Nat → Int32) {a b : Nat} (hab : a ≤ b) : rng h a (b + 1) = rng h a b + h b := by
  unfold rng
  rw [show b + 1 - a = (b - a) + 1 by omega]
  show smI h a (b - a) + h (a + (b - a)) = _
  rw [show a + (b - a) = b by omega]
theorem rng_0 (h : Nat → Int32) {a b : Nat} (hab : b ≤ a) : rng h a b = 0 := by
  unfold rng; rw [show b - a = 0 by omega]; rfl
/-- the first corner with the turn t, 49 for none -/
def fstN (tu : Nat → Int32) (t : Int32) : Nat := it 49 (fun c (_ : Unit) => if tu c = t then .inr c else .inl ()) (fun _ => 49) 0 ()
theorem cn_ex {P : Nat → Bool} {r : Nat} (h : ¬ cn P r = 0) : ∃ j, j < r ∧ P j = true := by
  induction r with
  | zero => exact absurd rfl h
  | succ r ih =>
    by_cases hp : P r = true
    · exact ⟨r, by omega, hp⟩
    · rw [cn_f hp] at h
      obtain ⟨j, h1, h2⟩ := ih h
      exact ⟨j, by omega, h2⟩
theorem sin_fst {tu : Nat → Int32} {t : Int32} (h : ¬ cn (fun c => tu c == t) 49 = 0) : sinF tu t 0 = nI (fstN tu t) ∧ fstN tu t < 49 := by
  obtain ⟨j, hj, e⟩ := cn_ex h
  have e : tu j = t := by simpa using e
  have key : ∀ c, c ≤ 49 → c ≤ j → it 49 (fun c (many : Nat) => if tu c = t then (if nI many = 0 then Sum.inr (nI c) else .inl (many + 1)) else .inl many) (fun _ => -1) c 0 = nI (it 49 (fun c (_ : Unit) => if tu c = t then .inr c else .inl ()) (fun _ => 49) c ()) ∧ it 49 (fun c (_ : Unit) => if tu c = t then .inr c else .inl ()) (fun _ => 49) c () < 49 := by
    refine downN 49 fun c hc ih => ?_
    intro hcj
    by_cases e2 : tu c = t
    · rw [it_ret (r := nI c) (by omega) (by rw [if_pos e2]; rfl), it_ret (r := c) (by omega) (by rw [if_pos e2])]
      exact ⟨rfl, by omega⟩
    · have hne : c ≠ j := fun h => e2 (h ▸ e)
      rw [it_go (s' := 0) (by omega) (by rw [if_neg e2]), it_go (s' := ()) (by omega) (by rw [if_neg e2])]
      exact ih (by omega) (by omega)
  exact key 0 (by decide) (Nat.zero_le _)
theorem pat_cn {tu : Nat → Int32} (h : 1 ≤ patF tu ∧ patF tu ≤ 4) : ¬ cn (fun c => tu c == 8) 49 = 0 ∧ ¬ cn (fun c => tu c == -8) 49 = 0 := by
  unfold patF at h
  split at h
  · exact absurd h (by decide)
  · split at h
    · rename_i h2; omega
    · split at h
      · exact absurd h (by decide)
      · rename_i h3; omega
theorem pat_is (tu : Nat → Int32) : patF tu = 0 ∨ patF tu = 1 ∨ patF tu = 2 ∨ patF tu = 3 ∨ patF tu = 4 ∨ patF tu = 5 := by
  unfold patF
  repeat' split
  all_goals simp
def gX (f : Nat → Int32) (p y : Nat) : Nat → Int32 := fun j => aX (f (5 + 97 * p + 8 * y + j))
def gY (f : Nat → Int32) (p x : Nat) : Nat → Int32 := fun j => aY (f (5 + 97 * p + 8 * j + x))
def ridN (f : Nat → Int32) (p c e : Nat) : Int32 := rng (gX f p (c / 7 + 1)) (min (c % 7 + 1) (e % 7 + 1)) (max (c % 7 + 1) (e % 7 + 1)) + rng (gY f p (e % 7 + 1)) (min (c / 7 + 1) (e / 7 + 1)) (max (c / 7 + 1) (e / 7 + 1))
/-- ridges between core and delta -/
def ridF (f : Nat → Int32) (p : Nat) : Int32 := if 1 ≤ patF (turnF f p) ∧ patF (turnF f p) ≤ 4 then ridN f p (fstN (turnF f p) 8) (fstN (turnF f p) (-8)) else 0
def clsF (f : Nat → Int32) (p : Nat) : Int32 := if patF (turnF f p) = 2 then (if 9 < ridF f p then 3 else 2) else if patF (turnF f p) = 3 then (if 9 < ridF f p then 5 else 4) else if patF (turnF f p) = 4 then 6 else if patF (turnF f p) = 5 then 7 else patF (turnF f p)
section PRINT
variable {g : aG} {d : Nat} {w : aW} {m f : Nat → Int32} {A : Nat → Nat → Int32} {B : Nat → Nat → Int64}
theorem m_alongX {x : Int32} : Ev g (d + 1) 208 [.int x] w (RetQ (aX x) w) noX := by
  refine ev_X11_alongX ?_ (Nat.le_of_ble_eq_true rfl)
  refine x_lo (lo' := [some (.int x)]) rfl ?_
  refine x_il rfl rfl ?_
  refine x_ifge rfl (fun c1 => ?_) (fun c1 => ?_)
  rotate_left
  · refine x_c rfl ?_
    refine x_go rfl ?_
    refine x_reti rfl (Nat.le_of_ble_eq_true rfl) (Nat.le_of_ble_eq_true rfl) rfl ?_
    exact ⟨by rw [show aX x = 0 from if_pos (Int32.not_le.mp c1)], rfl⟩
  refine x_il rfl rfl ?_
  refine x_c rfl ?_
  have c1 := Int32.not_lt.mpr c1
  refine x_icge rfl (fun c2 => ?_) (fun c2 => ?_)
  rotate_left
  · refine x_il rfl rfl ?_
    refine x_go rfl ?_
    refine x_reti rfl (Nat.le_of_ble_eq_true rfl) (Nat.le_of_ble_eq_true rfl) rfl ?_
    exact ⟨by unfold aX; rw [if_neg c1, if_pos (Int32.not_le.mp c2)], rfl⟩
  refine x_il rfl rfl ?_
  refine x_c rfl ?_
  have c2 := Int32.not_lt.mpr c2
  refine x_icge rfl (fun c3 => ?_) (fun c3 => ?_)
  rotate_left
  · refine x_c rfl ?_
    refine x_go rfl ?_
    refine x_reti rfl (Nat.le_of_ble_eq_true rfl) (Nat.le_of_ble_eq_true rfl) rfl ?_
    exact ⟨by unfold aX; rw [if_neg c1, if_neg c2, if_pos (Int32.not_le.mp c3)], rfl⟩
  refine x_c rfl ?_
  refine x_il rfl rfl ?_
  refine x_sub rfl ?_
  refine x_reti rfl (Nat.le_of_ble_eq_true rfl) (Nat.le_of_ble_eq_true rfl) rfl ?_
  exact ⟨by unfold aX; rw [if_neg c1, if_neg c2, if_neg (Int32.not_lt.mpr c3)], rfl⟩
theorem m_alongY {x : Int32} : Ev g (d + 1) 209 [.int x] w (RetQ (aY x) w) noX := by
  refine ev_X11_alongY ?_ (Nat.le_of_ble_eq_true rfl)
  refine x_lo (lo' := [some (.int x)]) rfl ?_
  refine x_il rfl rfl ?_
  refine x_ifge rfl (fun c1 => ?_) (fun c1 => ?_)
  rotate_left
  · refine x_c rfl ?_
    refine x_go rfl ?_
    refine x_reti rfl (Nat.le_of_ble_eq_true rfl) (Nat.le_of_ble_eq_true rfl) rfl ?_
    exact ⟨by rw [show aY x = 0 from if_pos (Int32.not_le.mp c1)], rfl⟩
  refine x_il rfl rfl ?_
  have c1 := Int32.not_lt.mpr c1
  refine x_ifne rfl (fun c2 => ?_) (fun c2 => ?_)
  rotate_left
  · refine x_c rfl ?_
    refine x_go rfl ?_
    refine x_reti rfl (Nat.le_of_ble_eq_true rfl) (Nat.le_of_ble_eq_true rfl) rfl ?_
    exact ⟨by unfold aY; rw [if_neg c1, if_pos c2], rfl⟩
  refine x_il rfl rfl ?_
  refine x_c rfl ?_
  refine x_icge rfl (fun c3 => ?_) (fun c3 => ?_)
  rotate_left
  · refine x_c rfl ?_
    refine x_il rfl rfl ?_
    refine x_sub rfl ?_
    refine x_go rfl ?_
    refine x_reti rfl (Nat.le_of_ble_eq_true rfl) (Nat.le_of_ble_eq_true rfl) rfl ?_
    exact ⟨by unfold aY; rw [if_neg c1, if_neg c2, if_pos (Int32.not_le.mp c3)], rfl⟩
  refine x_il rfl rfl ?_
  refine x_c rfl ?_
  refine x_sub rfl ?_
  refine x_reti rfl (Nat.le_of_ble_eq_true rfl) (Nat.le_of_ble_eq_true rfl) rfl ?_
  exact ⟨by unfold aY; rw [if_neg c1, if_neg c2, if_neg (Int32.not_lt.mpr c3)], rfl⟩
theorem m_minN {x y : Nat} (h : x < 2 ^ 31 ∧ y < 2 ^ 31) : Ev g (d + 1) 336 [.int (nI x), .int (nI y)] w (RetQ (nI (min x y)) w) noX := by
  have := m_min (g := g) (d := d) (w := w) (x := nI x) (y := nI y)
  by_cases hxy : x ≤ y
  · rw [if_pos (nI_le hxy h.2)] at this; rw [Nat.min_eq_left hxy]; exact this
  · rw [if_neg (nI_ge (by omega) h.1)] at this; rw [Nat.min_eq_right (by omega)]; exact this
theorem m_maxN {x y : Nat} (h : x < 2 ^ 31 ∧ y < 2 ^ 31) : Ev g (d + 1) 335 [.int (nI x), .int (nI y)] w (RetQ (nI (max x y)) w) noX := by
  have := m_max (g := g) (d := d) (w := w) (x := nI x) (y := nI y)
  by_cases hxy : y ≤ x
  · rw [if_pos (nI_le hxy h.1)] at this; rw [Nat.max_eq_left hxy]; exact this
  · rw [if_neg (nI_ge (by omega) h.2)] at this; rw [Nat.max_eq_right (by omega)]; exact this
theorem n_cellOf {p x y : Nat} (hc : 5 + 97 * p + 8 * y + x < 22176) (hn : w.1 = N0) : Ev g (d + 2) 200 [.ref 1424, .int (nI p), .int (nI x), .int (nI y)] (rW w m f A B) (RetQ (f (5 + 97 * p + 8 * y + x)) (rW w m f A B)) noX := m_cellOf (rw_old hn) hc hn
-- the loops
theorem n_ridY {p x1 y1 : Nat} {pat ca ce : Int32} (hp : p < 60) (b1 : 1 ≤ x1 ∧ x1 < 8 ∧ 1 ≤ y1 ∧ y1 < 8) (hn : w.1 = N0) : ∀ k y, (y - y1) + (y1 - y) = k → 1 ≤ y ∧ y < 8 → ∀ (T n : Int32) o10, T = n + rng (gY f p x1) (min y y1) (max y y1) → EX g mbOf (Ev g (d + 6)) (infoOf 210) k_X11_ridgesOf (RetQ T (rW w m f A B)) noX w.1 (rW w m f A B) 0 0 77 [some (.ref 1424), some (.int (nI p)), some (.int pat), some (.int ca), some (.int ce), some (.int (nI x1)), some (.int (nI y)), some (.int (nI x1)), some (.int (nI y1)), some (.int n), o10] [] := by
  intro k
  induction k with
  | zero =>
    intro y hk hy T n o10 hT
    obtain rfl : y = y1 := by omega
    rw [rng_0 _ (by omega), Int32.add_zero] at hT
    refine x_il rfl rfl ?_
    refine x_il rfl rfl ?_
    refine x_iceqN rfl (by omega) (fun c => ?_) (fun c => absurd rfl c)
    refine x_il rfl rfl ?_
    refine x_reti rfl (Nat.le_of_ble_eq_true rfl) (Nat.le_of_ble_eq_true rfl) rfl ?_
    exact ⟨by rw [hT], rfl⟩
  | succ k ih =>
    intro y hk hy T n o10 hT
    refine x_il rfl rfl ?_
    refine x_il rfl rfl ?_
    refine x_iceqN rfl (by omega) (fun c => absurd hk (by omega)) (fun c => ?_)
    refine x_il rfl rfl ?_
    refine x_il rfl rfl ?_
    refine x_icgeN rfl (by omega) (fun c2 => ?_) (fun c2 => ?_)
    · refine x_il rfl rfl ?_
      obtain ⟨z, rfl⟩ : ∃ z, y = z + 1 := ⟨y - 1, by omega⟩
      rw [show min (z + 1) y1 = y1 by omega, show max (z + 1) y1 = z + 1 by omega, rng_hi _ (by omega), ← Int32.add_assoc] at hT
      refine x_c rfl ?_
      first | refine x_subN (y := 1) rfl (by omega) ?_ | refine x_sub rfl ?_
      refine x_is (lo' := [_, _, _, _, _, _, _, _, _, _, _]) rfl (Nat.le_of_ble_eq_true rfl) rfl ?_
      refine x_il rfl rfl ?_
      refine x_al rfl rfl ?_
      refine x_il rfl rfl ?_
      refine x_il rfl rfl ?_
      refine x_il rfl rfl ?_
      refine x_il rfl rfl ?_
      refine x_call2 (m_minN (by omega)) rfl (Nat.le_of_ble_eq_true rfl) (Or.inl (by first | exact hn | assumption)) trivial (Nat.le_of_ble_eq_true rfl) (Nat.le_of_ble_eq_true rfl) (fun E w9 hq => hq.elim) ?_
      rintro v9 w9 ⟨rfl, rfl⟩
      simp only [Nat.add_sub_cancel]
      rw [show min (z + 1) z = z by omega]
      refine x_call4 (n_cellOf (y := z) (by omega) hn) rfl (Nat.le_of_ble_eq_true rfl) (Or.inl (by first | exact hn | assumption)) (rcv_at (by first | exact rw_md hn | exact rw_w hn | exact rw_A hn (by exact rfl) | exact rw_B2 hn | exact rw_B3 hn | assumption) (by decide) (by decide)) (Nat.le_of_ble_eq_true rfl) (Nat.le_of_ble_eq_true rfl) (fun E w9 hq => hq.elim) ?_
      rintro v9 w9 ⟨rfl, rfl⟩
      refine x_call1 (m_alongY) rfl (Nat.le_of_ble_eq_true rfl) (Or.inl (by first | exact hn | assumption)) trivial (Nat.le_of_ble_eq_true rfl) (Nat.le_of_ble_eq_true rfl) (fun E w9 hq => hq.elim) ?_
      rintro v9 w9 ⟨rfl, rfl⟩
      refine x_add rfl ?_
      refine x_is (lo' := [_, _, _, _, _, _, _, _, _, _, _]) rfl (Nat.le_of_ble_eq_true rfl) rfl ?_
      refine x_il rfl rfl ?_
      refine x_is (lo' := [_, _, _, _, _, _, _, _, _, _, _]) rfl (Nat.le_of_ble_eq_true rfl) rfl ?_
      refine x_go rfl ?_
      refine ih z (by omega) (by omega) T _ _ ?_
      rw [hT, show min z y1 = y1 by omega, show max z y1 = z by omega, Int32.add_assoc, Int32.add_assoc, Int32.add_comm (rng _ _ _)]
      rfl
    refine x_il rfl rfl ?_
    refine x_c rfl ?_
    refine x_addN (y := 1) rfl ?_
    refine x_go rfl ?_
    refine x_is (lo' := [_, _, _, _, _, _, _, _, _, _, _]) rfl (Nat.le_of_ble_eq_true rfl) rfl ?_
    refine x_il rfl rfl ?_
    refine x_al rfl rfl ?_
    refine x_il rfl rfl ?_
    refine x_il rfl rfl ?_
    refine x_il rfl rfl ?_
    refine x_il rfl rfl ?_
    rw [show min y y1 = y by omega, show max y y1 = y1 by omega, rng_lo _ (by omega), ← Int32.add_assoc] at hT
    refine x_call2 (m_minN (by omega)) rfl (Nat.le_of_ble_eq_true rfl) (Or.inl (by first | exact hn | assumption)) trivial (Nat.le_of_ble_eq_true rfl) (Nat.le_of_ble_eq_true rfl) (fun E w9 hq => hq.elim) ?_
    rintro v9 w9 ⟨rfl, rfl⟩
    rw [show min y (y + 1) = y by omega]
    refine x_call4 (n_cellOf (by omega) hn) rfl (Nat.le_of_ble_eq_true rfl) (Or.inl (by first | exact hn | assumption)) (rcv_at (by first | exact rw_md hn | exact rw_w hn | exact rw_A hn (by exact rfl) | exact rw_B2 hn | exact rw_B3 hn | assumption) (by decide) (by decide)) (Nat.le_of_ble_eq_true rfl) (Nat.le_of_ble_eq_true rfl) (fun E w9 hq => hq.elim) ?_
    rintro v9 w9 ⟨rfl, rfl⟩
    refine x_call1 (m_alongY) rfl (Nat.le_of_ble_eq_true rfl) (Or.inl (by first | exact hn | assumption)) trivial (Nat.le_of_ble_eq_true rfl) (Nat.le_of_ble_eq_true rfl) (fun E w9 hq => hq.elim) ?_
    rintro v9 w9 ⟨rfl, rfl⟩
    refine x_add rfl ?_
    refine x_is (lo' := [_, _, _, _, _, _, _, _, _, _, _]) rfl (Nat.le_of_ble_eq_true rfl) rfl ?_
    refine x_il rfl rfl ?_
    refine x_is (lo' := [_, _, _, _, _, _, _, _, _, _, _]) rfl (Nat.le_of_ble_eq_true rfl) rfl ?_
    refine x_go rfl ?_
    refine ih (y + 1) (by omega) (by omega) T _ _ ?_
    rw [hT, show min (y + 1) y1 = y + 1 by omega, show max (y + 1) y1 = y1 by omega]
    rfl
theorem n_ridX {p x1 y1 y0 : Nat} {pat ca ce : Int32} (hp : p < 60) (b1 : 1 ≤ x1 ∧ x1 < 8 ∧ 1 ≤ y1 ∧ y1 < 8 ∧ 1 ≤ y0 ∧ y0 < 8) (hn : w.1 = N0) : ∀ k x, (x - x1) + (x1 - x) = k → 1 ≤ x ∧ x < 8 → ∀ (T n : Int32) o10, T = n + rng (gX f p y0) (min x x1) (max x x1) → EX g mbOf (Ev g (d + 6)) (infoOf 210) k_X11_ridgesOf (RetQ (T + rng (gY f p x1) (min y0 y1) (max y0 y1)) (rW w m f A B)) noX w.1 (rW w m f A B) 0 0 49 [some (.ref 1424), some (.int (nI p)), some (.int pat), some (.int ca), some (.int ce), some (.int (nI x)), some (.int (nI y0)), some (.int (nI x1)), some (.int (nI y1)), some (.int n), o10] [] := by
  intro k
  induction k with
  | zero =>
    intro x hk hx T n o10 hT
    obtain rfl : x = x1 := by omega
    rw [rng_0 _ (by omega), Int32.add_zero] at hT
    refine x_il rfl rfl ?_
    refine x_il rfl rfl ?_
    refine x_iceqN rfl (by omega) (fun c => ?_) (fun c => absurd rfl c)
    rw [hT]
    exact n_ridY hp ⟨b1.1, b1.2.1, b1.2.2.1, b1.2.2.2.1⟩ hn _ y0 rfl ⟨b1.2.2.2.2.1, b1.2.2.2.2.2⟩ _ _ _ rfl
  | succ k ih =>
    intro x hk hx T n o10 hT
    refine x_il rfl rfl ?_
    refine x_il rfl rfl ?_
    refine x_iceqN rfl (by omega) (fun c => absurd hk (by omega)) (fun c => ?_)
    refine x_il rfl rfl ?_
    refine x_il rfl rfl ?_
    refine x_icgeN rfl (by omega) (fun c2 => ?_) (fun c2 => ?_)
    · refine x_il rfl rfl ?_
      obtain ⟨z, rfl⟩ : ∃ z, x = z + 1 := ⟨x - 1, by omega⟩
      rw [show min (z + 1) x1 = x1 by omega, show max (z + 1) x1 = z + 1 by omega, rng_hi _ (by omega), ← Int32.add_assoc] at hT
      refine x_c rfl ?_
      first | refine x_subN (y := 1) rfl (by omega) ?_ | refine x_sub rfl ?_
      refine x_is (lo' := [_, _, _, _, _, _, _, _, _, _, _]) rfl (Nat.le_of_ble_eq_true rfl) rfl ?_
      refine x_il rfl rfl ?_
      refine x_al rfl rfl ?_
      refine x_il rfl rfl ?_
      refine x_il rfl rfl ?_
      refine x_il rfl rfl ?_
      refine x_call2 (m_minN (by omega)) rfl (Nat.le_of_ble_eq_true rfl) (Or.inl (by first | exact hn | assumption)) trivial (Nat.le_of_ble_eq_true rfl) (Nat.le_of_ble_eq_true rfl) (fun E w9 hq => hq.elim) ?_
      rintro v9 w9 ⟨rfl, rfl⟩
      refine x_il rfl rfl ?_
      simp only [Nat.add_sub_cancel]
      rw [show min (z + 1) z = z by omega]
      refine x_call4 (n_cellOf (x := z) (by omega) hn) rfl (Nat.le_of_ble_eq_true rfl) (Or.inl (by first | exact hn | assumption)) (rcv_at (by first | exact rw_md hn | exact rw_w hn | exact rw_A hn (by exact rfl) | exact rw_B2 hn | exact rw_B3 hn | assumption) (by decide) (by decide)) (Nat.le_of_ble_eq_true rfl) (Nat.le_of_ble_eq_true rfl) (fun E w9 hq => hq.elim) ?_
      rintro v9 w9 ⟨rfl, rfl⟩
      refine x_call1 (m_alongX) rfl (Nat.le_of_ble_eq_true rfl) (Or.inl (by first | exact hn | assumption)) trivial (Nat.le_of_ble_eq_true rfl) (Nat.le_of_ble_eq_true rfl) (fun E w9 hq => hq.elim) ?_
      rintro v9 w9 ⟨rfl, rfl⟩
      refine x_add rfl ?_
      refine x_is (lo' := [_, _, _, _, _, _, _, _, _, _, _]) rfl (Nat.le_of_ble_eq_true rfl) rfl ?_
      refine x_il rfl rfl ?_
      refine x_is (lo' := [_, _, _, _, _, _, _, _, _, _, _]) rfl (Nat.le_of_ble_eq_true rfl) rfl ?_
      refine x_go rfl ?_
      refine ih z (by omega) (by omega) T _ _ ?_
      rw [hT, show min z x1 = x1 by omega, show max z x1 = z by omega, Int32.add_assoc, Int32.add_assoc, Int32.add_comm (rng _ _ _)]
      rfl
    refine x_il rfl rfl ?_
    refine x_c rfl ?_
    refine x_addN (y := 1) rfl ?_
    refine x_go rfl ?_
    refine x_is (lo' := [_, _, _, _, _, _, _, _, _, _, _]) rfl (Nat.le_of_ble_eq_true rfl) rfl ?_
    refine x_il rfl rfl ?_
    refine x_al rfl rfl ?_
    refine x_il rfl rfl ?_
    refine x_il rfl rfl ?_
    refine x_il rfl rfl ?_
    rw [show min x x1 = x by omega, show max x x1 = x1 by omega, rng_lo _ (by omega), ← Int32.add_assoc] at hT
    refine x_call2 (m_minN (by omega)) rfl (Nat.le_of_ble_eq_true rfl) (Or.inl (by first | exact hn | assumption)) trivial (Nat.le_of_ble_eq_true rfl) (Nat.le_of_ble_eq_true rfl) (fun E w9 hq => hq.elim) ?_
    rintro v9 w9 ⟨rfl, rfl⟩
    refine x_il rfl rfl ?_
    rw [show min x (x + 1) = x by omega]
    refine x_call4 (n_cellOf (by omega) hn) rfl (Nat.le_of_ble_eq_true rfl) (Or.inl (by first | exact hn | assumption)) (rcv_at (by first | exact rw_md hn | exact rw_w hn | exact rw_A hn (by exact rfl) | exact rw_B2 hn | exact rw_B3 hn | assumption) (by decide) (by decide)) (Nat.le_of_ble_eq_true rfl) (Nat.le_of_ble_eq_true rfl) (fun E w9 hq => hq.elim) ?_
    rintro v9 w9 ⟨rfl, rfl⟩
    refine x_call1 (m_alongX) rfl (Nat.le_of_ble_eq_true rfl) (Or.inl (by first | exact hn | assumption)) trivial (Nat.le_of_ble_eq_true rfl) (Nat.le_of_ble_eq_true rfl) (fun E w9 hq => hq.elim) ?_
    rintro v9 w9 ⟨rfl, rfl⟩
    refine x_add rfl ?_
    refine x_is (lo' := [_, _, _, _, _, _, _, _, _, _, _]) rfl (Nat.le_of_ble_eq_true rfl) rfl ?_
    refine x_il rfl rfl ?_
    refine x_is (lo' := [_, _, _, _, _, _, _, _, _, _, _]) rfl (Nat.le_of_ble_eq_true rfl) rfl ?_
    refine x_go rfl ?_
    refine ih (x + 1) (by omega) (by omega) T _ _ ?_
    rw [hT, show min (x + 1) x1 = x + 1 by omega, show max (x + 1) x1 = x1 by omega]
    rfl
theorem n_ridgesOf {p : Nat} (hp : p < 60) (hn : w.1 = N0) : Ev g (d + 7) 210 [.ref 1424, .int (nI p)] (rW w m f A B) (RetQ (ridF f p) (rW w m f A B)) noX := by
  refine ev_X11_ridgesOf ?_ (Nat.le_of_ble_eq_true rfl)
  refine x_lo (lo' := [some (.ref 1424), some (.int (nI p)), none, none, none, none, none, none, none, none, none]) rfl ?_
  refine x_al rfl rfl ?_
  refine x_il rfl rfl ?_
  refine x_call2 (n_patternOf hp hn) rfl (Nat.le_of_ble_eq_true rfl) (Or.inl (by first | exact hn | assumption)) (rcv_at (by first | exact rw_md hn | exact rw_w hn | exact rw_A hn (by exact rfl) | exact rw_B2 hn | exact rw_B3 hn | assumption) (by decide) (by decide)) (Nat.le_of_ble_eq_true rfl) (Nat.le_of_ble_eq_true rfl) (fun E w9 hq => hq.elim) ?_
  rintro v9 w9 ⟨rfl, rfl⟩
  refine x_is (lo' := [_, _, _, _, _, _, _, _, _, _, _]) rfl (Nat.le_of_ble_eq_true rfl) rfl ?_
  refine x_il rfl rfl ?_
  refine x_c rfl ?_
  refine x_c rfl ?_
  refine x_call3 (m_in) rfl (Nat.le_of_ble_eq_true rfl) (Or.inl (by first | exact hn | assumption)) trivial (Nat.le_of_ble_eq_true rfl) (Nat.le_of_ble_eq_true rfl) (fun E w9 hq => hq.elim) ?_
  rintro v9 w9 ⟨rfl, rfl⟩
  refine x_ifneB rfl (fun c0 => ?_) (fun c0 => ?_)
  rotate_left
  · refine x_c rfl ?_
    refine x_reti rfl (Nat.le_of_ble_eq_true rfl) (Nat.le_of_ble_eq_true rfl) rfl ?_
    exact ⟨by rw [show ridF f p = 0 from if_neg c0], rfl⟩
  refine x_al rfl rfl ?_
  refine x_il rfl rfl ?_
  refine x_c rfl ?_
  refine x_c rfl ?_
  rw [show ridF f p = _ from if_pos c0]
  obtain ⟨k1, k2⟩ := pat_cn c0
  obtain ⟨e1, l1⟩ := sin_fst k1
  obtain ⟨e2, l2⟩ := sin_fst k2
  generalize fstN (turnF f p) 8 = ca at *
  generalize fstN (turnF f p) (-8) = ce at *
  generalize patF (turnF f p) = pat at *
  refine x_call4 (n_singularOf hp hn) rfl (Nat.le_of_ble_eq_true rfl) (Or.inl (by first | exact hn | assumption)) (rcv_at (by first | exact rw_md hn | exact rw_w hn | exact rw_A hn (by exact rfl) | exact rw_B2 hn | exact rw_B3 hn | assumption) (by decide) (by decide)) (Nat.le_of_ble_eq_true rfl) (Nat.le_of_ble_eq_true rfl) (fun E w9 hq => hq.elim) ?_
  rintro v9 w9 ⟨rfl, rfl⟩
  refine x_is (lo' := [_, _, _, _, _, _, _, _, _, _, _]) rfl (Nat.le_of_ble_eq_true rfl) rfl ?_
  refine x_al rfl rfl ?_
  rw [e1]
  refine x_il rfl rfl ?_
  refine x_c rfl ?_
  refine x_c rfl ?_
  refine x_call4 (n_singularOf hp hn) rfl (Nat.le_of_ble_eq_true rfl) (Or.inl (by first | exact hn | assumption)) (rcv_at (by first | exact rw_md hn | exact rw_w hn | exact rw_A hn (by exact rfl) | exact rw_B2 hn | exact rw_B3 hn | assumption) (by decide) (by decide)) (Nat.le_of_ble_eq_true rfl) (Nat.le_of_ble_eq_true rfl) (fun E w9 hq => hq.elim) ?_
  rintro v9 w9 ⟨rfl, rfl⟩
  refine x_is (lo' := [_, _, _, _, _, _, _, _, _, _, _]) rfl (Nat.le_of_ble_eq_true rfl) rfl ?_
  refine x_il rfl rfl ?_
  refine x_c rfl ?_
  rw [e2]
  refine x_remN (y := 7) rfl (by omega) ?_
  refine x_c rfl ?_
  refine x_addN (y := 1) rfl ?_
  refine x_is (lo' := [_, _, _, _, _, _, _, _, _, _, _]) rfl (Nat.le_of_ble_eq_true rfl) rfl ?_
  refine x_il rfl rfl ?_
  refine x_c rfl ?_
  refine x_divN (y := 7) rfl (by omega) ?_
  refine x_c rfl ?_
  refine x_addN (y := 1) rfl ?_
  refine x_is (lo' := [_, _, _, _, _, _, _, _, _, _, _]) rfl (Nat.le_of_ble_eq_true rfl) rfl ?_
  refine x_il rfl rfl ?_
  refine x_c rfl ?_
  refine x_remN (y := 7) rfl (by omega) ?_
  refine x_c rfl ?_
  refine x_addN (y := 1) rfl ?_
  refine x_is (lo' := [_, _, _, _, _, _, _, _, _, _, _]) rfl (Nat.le_of_ble_eq_true rfl) rfl ?_
  refine x_il rfl rfl ?_
  refine x_c rfl ?_
  refine x_divN (y := 7) rfl (by omega) ?_
  refine x_c rfl ?_
  refine x_addN (y := 1) rfl ?_
  refine x_is (lo' := [_, _, _, _, _, _, _, _, _, _, _]) rfl (Nat.le_of_ble_eq_true rfl) rfl ?_
  refine x_c rfl ?_
  refine x_is (lo' := [_, _, _, _, _, _, _, _, _, _, _]) rfl (Nat.le_of_ble_eq_true rfl) rfl ?_
  unfold ridN
  have b1 : 1 ≤ ca % 7 + 1 ∧ ca % 7 + 1 < 8 ∧ 1 ≤ ca / 7 + 1 ∧ ca / 7 + 1 < 8 ∧ 1 ≤ ce % 7 + 1 ∧ ce % 7 + 1 < 8 ∧ 1 ≤ ce / 7 + 1 ∧ ce / 7 + 1 < 8 := by omega
  generalize ca % 7 + 1 = x0 at *
  generalize ca / 7 + 1 = y0 at *
  generalize ce % 7 + 1 = x1 at *
  generalize ce / 7 + 1 = y1 at *
  exact n_ridX (x1 := x1) hp (by omega) hn _ x0 rfl (by omega) _ _ _ (Int32.zero_add _).symm
theorem n_classOfPrint {p : Nat} (hp : p < 60) (hn : w.1 = N0) : Ev g (d + 8) 212 [.ref 1424, .int (nI p)] (rW w m f A B) (RetQ (clsF f p) (rW w m f A B)) noX := by
  refine ev_X11_classOfPrint ?_ (Nat.le_of_ble_eq_true rfl)
  refine x_lo (lo' := [some (.ref 1424), some (.int (nI p)), none]) rfl ?_
  refine x_al rfl rfl ?_
  refine x_il rfl rfl ?_
  refine x_call2 (n_patternOf hp hn) rfl (Nat.le_of_ble_eq_true rfl) (Or.inl (by first | exact hn | assumption)) (rcv_at (by first | exact rw_md hn | exact rw_w hn | exact rw_A hn (by exact rfl) | exact rw_B2 hn | exact rw_B3 hn | assumption) (by decide) (by decide)) (Nat.le_of_ble_eq_true rfl) (Nat.le_of_ble_eq_true rfl) (fun E w9 hq => hq.elim) ?_
  rintro v9 w9 ⟨rfl, rfl⟩
  refine x_is (lo' := [_, _, _]) rfl (Nat.le_of_ble_eq_true rfl) rfl ?_
  refine x_il rfl rfl ?_
  unfold clsF
  rcases pat_is (turnF f p) with e | e | e | e | e | e
  · rw [e]
    refine x_swD rfl (by decide) ?_
    refine x_il rfl rfl ?_
    refine x_reti rfl (Nat.le_of_ble_eq_true rfl) (Nat.le_of_ble_eq_true rfl) rfl ?_
    exact ⟨rfl, rfl⟩
  · rw [e]
    refine x_swD rfl (by decide) ?_
    refine x_il rfl rfl ?_
    refine x_reti rfl (Nat.le_of_ble_eq_true rfl) (Nat.le_of_ble_eq_true rfl) rfl ?_
    exact ⟨rfl, rfl⟩
  · rw [e]
    refine x_swJ 0 rfl (by decide) rfl ?_
    refine x_al rfl rfl ?_
    refine x_il rfl rfl ?_
    refine x_call2 (n_ridgesOf hp hn) rfl (Nat.le_of_ble_eq_true rfl) (Or.inl (by first | exact hn | assumption)) (rcv_at (by first | exact rw_md hn | exact rw_w hn | exact rw_A hn (by exact rfl) | exact rw_B2 hn | exact rw_B3 hn | assumption) (by decide) (by decide)) (Nat.le_of_ble_eq_true rfl) (Nat.le_of_ble_eq_true rfl) (fun E w9 hq => hq.elim) ?_
    rintro v9 w9 ⟨rfl, rfl⟩
    refine x_c rfl ?_
    refine x_icle rfl (fun c => ?_) (fun c => ?_)
    · refine x_c rfl ?_
      refine x_reti rfl (Nat.le_of_ble_eq_true rfl) (Nat.le_of_ble_eq_true rfl) rfl ?_
      exact ⟨by rw [if_pos rfl, if_neg (Int32.not_lt.mpr c)], rfl⟩
    refine x_c rfl ?_
    refine x_go rfl ?_
    refine x_reti rfl (Nat.le_of_ble_eq_true rfl) (Nat.le_of_ble_eq_true rfl) rfl ?_
    exact ⟨by rw [if_pos rfl, if_pos (Int32.not_le.mp c)], rfl⟩
  · rw [e]
    refine x_swJ 1 rfl (by decide) rfl ?_
    refine x_al rfl rfl ?_
    refine x_il rfl rfl ?_
    refine x_call2 (n_ridgesOf hp hn) rfl (Nat.le_of_ble_eq_true rfl) (Or.inl (by first | exact hn | assumption)) (rcv_at (by first | exact rw_md hn | exact rw_w hn | exact rw_A hn (by exact rfl) | exact rw_B2 hn | exact rw_B3 hn | assumption) (by decide) (by decide)) (Nat.le_of_ble_eq_true rfl) (Nat.le_of_ble_eq_true rfl) (fun E w9 hq => hq.elim) ?_
    rintro v9 w9 ⟨rfl, rfl⟩
    refine x_c rfl ?_
    refine x_icle rfl (fun c => ?_) (fun c => ?_)
    · refine x_c rfl ?_
      refine x_reti rfl (Nat.le_of_ble_eq_true rfl) (Nat.le_of_ble_eq_true rfl) rfl ?_
      exact ⟨by rw [if_neg (by decide), if_pos rfl, if_neg (Int32.not_lt.mpr c)], rfl⟩
    refine x_c rfl ?_
    refine x_go rfl ?_
    refine x_reti rfl (Nat.le_of_ble_eq_true rfl) (Nat.le_of_ble_eq_true rfl) rfl ?_
    exact ⟨by rw [if_neg (by decide), if_pos rfl, if_pos (Int32.not_le.mp c)], rfl⟩
  · rw [e]
    refine x_swJ 2 rfl (by decide) rfl ?_
    refine x_c rfl ?_
    refine x_reti rfl (Nat.le_of_ble_eq_true rfl) (Nat.le_of_ble_eq_true rfl) rfl ?_
    exact ⟨rfl, rfl⟩
  · rw [e]
    refine x_swJ 3 rfl (by decide) rfl ?_
    refine x_c rfl ?_
    refine x_reti rfl (Nat.le_of_ble_eq_true rfl) (Nat.le_of_ble_eq_true rfl) rfl ?_
    exact ⟨rfl, rfl⟩
end PRINT
