/-! the reference's calls: readers; mset_ -/
def okN (x : Int32) (n : Nat) : Bool := decide (0 ≤ x ∧ x < nI n)
theorem ok_of {x : Int32} {n : Nat} (h : okN x n = true) (hn : n < 2 ^ 31) : ∃ p, p < n ∧ x = nI p ∧ cN x = p := by
  obtain ⟨h1, h2⟩ := of_decide_eq_true h
  obtain ⟨j, hj, rfl⟩ := nI_of (Int32.not_lt.mpr h1)
  exact ⟨j, (nI_ltI hj hn).mp h2, rfl, nI_clamp hj⟩
theorem ok_iff {x : Int32} {n : Nat} (hn : n < 2 ^ 31) : okN x n = decide (0 ≤ x ∧ x ≤ nI n - 1) := by
  unfold okN
  congr 1
  apply propext
  constructor
  · rintro ⟨h1, h2⟩
    obtain ⟨j, hj, rfl⟩ := nI_of (Int32.not_lt.mpr h1)
    have := (nI_ltI hj hn).mp h2
    refine ⟨h1, ?_⟩
    obtain ⟨n, rfl⟩ : ∃ k, n = k + 1 := ⟨n - 1, by omega⟩
    rw [nI_pred]
    exact nI_le (by omega) (by omega)
  · rintro ⟨h1, h2⟩
    obtain ⟨j, hj, rfl⟩ := nI_of (Int32.not_lt.mpr h1)
    refine ⟨h1, ?_⟩
    cases n with
    | zero => exact absurd (Int32.le_trans h1 h2) (by decide)
    | succ n =>
      rw [nI_pred] at h2
      have := (nI_leI hj (by omega)).mp h2
      exact nI_lt (by omega) hn
/-- an answer and what was thrown; everything else that counts as before, the world f -/
def OpQ (w : aW) (m f : Nat → Int32) (A : Nat → Nat → Int32) (r : Option Value) (thr : Int32) : Option Value → aW → Prop := fun v w' => v = r ∧ ∃ m' A' B', w' = rW w m' f A' B' ∧ m' 0 = thr ∧ keepS (upd m 0 thr) m' ∧ ∀ q, q < 1430 → A' q = A q
section CALLS
variable {g : aG} {d : Nat} {w : aW} {m f : Nat → Int32} {A : Nat → Nat → Int32} {B : Nat → Nat → Int64}
theorem opq_s {r : Option Value} {t : Int32} : OpQ w m f A r t r (rW w (upd m 0 t) f A B) := ⟨rfl, _, A, B, rfl, pk_us, keepS_r, fun _ _ => rfl⟩
theorem opq_t {r : Option Value} {a t : Int32} : OpQ w m f A r t r (rW w (upd (upd m 0 a) 0 t) f A B) := ⟨rfl, _, A, B, rfl, pk_us, by rw [upd_upd]; exact keepS_r, fun _ _ => rfl⟩
theorem opq_k {r : Option Value} {t : Int32} {m' : Nat → Int32} {A' : Nat → Nat → Int32} {B' : Nat → Nat → Int64} (hk : keepS (upd m 0 t) m') (hA : keepB A A') : OpQ w m f A r t r (rW w m' f A' B') := ⟨rfl, _, _, _, rfl, (hk 0 (by decide) (by decide)).trans pk_us, hk, fun q hq => hA q (Or.inl hq)⟩
theorem n_noPrint {x : Int32} {n : Nat} (hc : f 4 = nI n) (hl : n < 2 ^ 31) (hn : w.1 = N0) : Ev g (d + 2) 196 [.ref 1424, .int x] (rW w m f A B) (RetQ (bI (!okN x n)) (rW w m f A B)) noX := by
  have := m_noPrint (g := g) (d := d) (x := x) (rw_old (w := w) (m := m) (f := f) (A := A) (B := B) hn) hn
  rw [hc] at this
  rw [ok_iff hl, ← decide_not]
  exact this
theorem n_noMark {x : Int32} {n : Nat} (hc : f 5825 = nI n) (hl : n < 2 ^ 31) (hn : w.1 = N0) : Ev g (d + 2) 217 [.ref 1424, .int x] (rW w m f A B) (RetQ (bI (!okN x n)) (rW w m f A B)) noX := by
  have := m_noMark (g := g) (d := d) (x := x) (rw_old (w := w) (m := m) (f := f) (A := A) (B := B) hn) hn
  rw [hc] at this
  rw [ok_iff hl, ← decide_not]
  exact this
theorem n_noCard {x : Int32} {n : Nat} (hc : f 6606 = nI n) (hl : n < 2 ^ 31) (hn : w.1 = N0) : Ev g (d + 2) 233 [.ref 1424, .int x] (rW w m f A B) (RetQ (bI (!okN x n)) (rW w m f A B)) noX := by
  have := m_noCard (g := g) (d := d) (x := x) (rw_old (w := w) (m := m) (f := f) (A := A) (B := B) hn) hn
  rw [hc] at this
  rw [ok_iff hl, ← decide_not]
  exact this
theorem n_inN {x : Int32} {n : Nat} (k : Int32) (hk : k = nI n - 1) (hl : n < 2 ^ 31) : Ev g (d + 1) 179 [.int x, .int 0, .int k] w (RetQ (bI (okN x n)) w) noX := by
  rw [ok_iff hl, ← hk]
  exact m_in
theorem n_noFinger {x : Int32} (hn : w.1 = N0) : Ev g (d + 2) 234 [.int x] w (RetQ (bI (!okN x 10)) w) noX := by
  refine ev_X11_noFinger ?_ (Nat.le_of_ble_eq_true rfl)
  refine x_lo (lo' := [some (.int x)]) rfl ?_
  refine x_il rfl rfl ?_
  refine x_c rfl ?_
  refine x_c rfl ?_
  refine x_call3 (n_inN (n := 10) 9 (by decide) (by decide)) rfl (Nat.le_of_ble_eq_true rfl) (Or.inl (by first | exact hn | assumption)) trivial (Nat.le_of_ble_eq_true rfl) (Nat.le_of_ble_eq_true rfl) (fun E w9 hq => hq.elim) ?_
  rintro v9 w9 ⟨rfl, rfl⟩
  cases okN x 10 with
  | true =>
    refine x_ifne rfl (fun c => ?_) (fun c => absurd c (show ¬ (1 : Int32) = 0 by decide))
    refine x_c rfl ?_
    refine x_retz rfl (Nat.le_of_ble_eq_true rfl) (Nat.le_of_ble_eq_true rfl) rfl (by first | rfl | assumption) ?_
    exact ⟨rfl, rfl⟩
  | false =>
    refine x_ifne rfl (fun c => absurd rfl c) (fun c => ?_)
    refine x_c rfl ?_
    refine x_go rfl ?_
    refine x_retz rfl (Nat.le_of_ble_eq_true rfl) (Nat.le_of_ble_eq_true rfl) rfl (by first | rfl | assumption) ?_
    exact ⟨rfl, rfl⟩
theorem n_throwsIf {b : Bool} {k : Int32} (hn : w.1 = N0) : Ev g (d + 1) 178 [.ref 1424, .int (bI b), .int k] (rW w m f A B) (RetQ (bI b) (rW w (if b = true then upd m 0 k else m) f A B)) noX := by
  have hz := bI_01 b
  refine ev_X11_throwsIf ?_ (Nat.le_of_ble_eq_true rfl)
  refine x_lo (lo' := [some (.ref 1424), some (.int (bI b)), some (.int k)]) rfl ?_
  refine x_il rfl rfl ?_
  cases b with
  | true =>
    refine x_ifeq rfl (fun c => absurd c (show ¬ (1 : Int32) = 0 by decide)) (fun c => ?_)
    refine x_al rfl rfl ?_
    refine x_il rfl rfl ?_
    refine x_putM rfl hn rfl rfl rfl (mset_0 _ _) ?_
    refine x_il rfl rfl ?_
    refine x_retz rfl (Nat.le_of_ble_eq_true rfl) (Nat.le_of_ble_eq_true rfl) rfl (by first | rfl | assumption) ?_
    exact ⟨rfl, rfl⟩
  | false =>
    refine x_ifeq rfl (fun c => ?_) (fun c => absurd rfl c)
    refine x_il rfl rfl ?_
    refine x_retz rfl (Nat.le_of_ble_eq_true rfl) (Nat.le_of_ble_eq_true rfl) rfl (by first | rfl | assumption) ?_
    exact ⟨rfl, rfl⟩
theorem r_pattern {x : Int32} {np : Nat} (hc : f 4 = nI np) (h60 : np ≤ 60) (hn : w.1 = N0) : Ev g (d + 7) 207 [.ref 1424, .int x] (rW w m f A B) (OpQ w m f A (some (.int (if okN x np = true then patF (turnF f (cN x)) else 0))) (if okN x np = true then 0 else 1)) noX := by
  refine ev_X11_pattern ?_ (Nat.le_of_ble_eq_true rfl)
  refine x_lo (lo' := [some (.ref 1424), some (.int x)]) rfl ?_
  refine x_al rfl rfl ?_
  refine x_c rfl ?_
  refine x_putM rfl hn rfl rfl rfl (mset_0 _ _) ?_
  refine x_al rfl rfl ?_
  refine x_al rfl rfl ?_
  refine x_il rfl rfl ?_
  refine x_call2 (n_noPrint hc (by omega) hn) rfl (Nat.le_of_ble_eq_true rfl) (Or.inl (by first | exact hn | assumption)) (rcv_at (by first | exact rw_md hn | exact rw_w hn | exact rw_A hn (by exact rfl) | exact rw_B2 hn | exact rw_B3 hn | assumption) (by decide) (by decide)) (Nat.le_of_ble_eq_true rfl) (Nat.le_of_ble_eq_true rfl) (fun E w9 hq => hq.elim) ?_
  rintro v9 w9 ⟨rfl, rfl⟩
  refine x_c rfl ?_
  refine x_call3 (n_throwsIf hn) rfl (Nat.le_of_ble_eq_true rfl) (Or.inl (by first | exact hn | assumption)) (rcv_at (by first | exact rw_md hn | exact rw_w hn | exact rw_A hn (by exact rfl) | exact rw_B2 hn | exact rw_B3 hn | assumption) (by decide) (by decide)) (Nat.le_of_ble_eq_true rfl) (Nat.le_of_ble_eq_true rfl) (fun E w9 hq => hq.elim) ?_
  rintro v9 w9 ⟨rfl, rfl⟩
  cases hb : okN x np with
  | false =>
    refine x_ifeq rfl (fun c => absurd c (show ¬ (1 : Int32) = 0 by decide)) (fun c => ?_)
    refine x_c rfl ?_
    refine x_go rfl ?_
    refine x_reti rfl (Nat.le_of_ble_eq_true rfl) (Nat.le_of_ble_eq_true rfl) rfl ?_
    exact opq_t
  | true =>
    obtain ⟨p, hp, rfl, hcn⟩ := ok_of hb (by omega)
    refine x_ifeq rfl (fun c => ?_) (fun c => absurd rfl c)
    refine x_al rfl rfl ?_
    refine x_il rfl rfl ?_
    refine x_call2 (n_patternOf (by omega) hn) rfl (Nat.le_of_ble_eq_true rfl) (Or.inl (by first | exact hn | assumption)) (rcv_at (by first | exact rw_md hn | exact rw_w hn | exact rw_A hn (by exact rfl) | exact rw_B2 hn | exact rw_B3 hn | assumption) (by decide) (by decide)) (Nat.le_of_ble_eq_true rfl) (Nat.le_of_ble_eq_true rfl) (fun E w9 hq => hq.elim) ?_
    rintro v9 w9 ⟨rfl, rfl⟩
    refine x_reti rfl (Nat.le_of_ble_eq_true rfl) (Nat.le_of_ble_eq_true rfl) rfl ?_
    rw [hcn]
    exact opq_s
theorem r_ridges {x : Int32} {np : Nat} (hc : f 4 = nI np) (h60 : np ≤ 60) (hn : w.1 = N0) : Ev g (d + 8) 211 [.ref 1424, .int x] (rW w m f A B) (OpQ w m f A (some (.int (if okN x np = true then ridF f (cN x) else 0))) (if okN x np = true then 0 else 1)) noX := by
  refine ev_X11_ridges ?_ (Nat.le_of_ble_eq_true rfl)
  refine x_lo (lo' := [some (.ref 1424), some (.int x)]) rfl ?_
  refine x_al rfl rfl ?_
  refine x_c rfl ?_
  refine x_putM rfl hn rfl rfl rfl (mset_0 _ _) ?_
  refine x_al rfl rfl ?_
  refine x_al rfl rfl ?_
  refine x_il rfl rfl ?_
  refine x_call2 (n_noPrint hc (by omega) hn) rfl (Nat.le_of_ble_eq_true rfl) (Or.inl (by first | exact hn | assumption)) (rcv_at (by first | exact rw_md hn | exact rw_w hn | exact rw_A hn (by exact rfl) | exact rw_B2 hn | exact rw_B3 hn | assumption) (by decide) (by decide)) (Nat.le_of_ble_eq_true rfl) (Nat.le_of_ble_eq_true rfl) (fun E w9 hq => hq.elim) ?_
  rintro v9 w9 ⟨rfl, rfl⟩
  refine x_c rfl ?_
  refine x_call3 (n_throwsIf hn) rfl (Nat.le_of_ble_eq_true rfl) (Or.inl (by first | exact hn | assumption)) (rcv_at (by first | exact rw_md hn | exact rw_w hn | exact rw_A hn (by exact rfl) | exact rw_B2 hn | exact rw_B3 hn | assumption) (by decide) (by decide)) (Nat.le_of_ble_eq_true rfl) (Nat.le_of_ble_eq_true rfl) (fun E w9 hq => hq.elim) ?_
  rintro v9 w9 ⟨rfl, rfl⟩
  cases hb : okN x np with
  | false =>
    refine x_ifeq rfl (fun c => absurd c (show ¬ (1 : Int32) = 0 by decide)) (fun c => ?_)
    refine x_c rfl ?_
    refine x_go rfl ?_
    refine x_reti rfl (Nat.le_of_ble_eq_true rfl) (Nat.le_of_ble_eq_true rfl) rfl ?_
    exact opq_t
  | true =>
    obtain ⟨p, hp, rfl, hcn⟩ := ok_of hb (by omega)
    refine x_ifeq rfl (fun c => ?_) (fun c => absurd rfl c)
    refine x_al rfl rfl ?_
    refine x_il rfl rfl ?_
    refine x_call2 (n_ridgesOf (by omega) hn) rfl (Nat.le_of_ble_eq_true rfl) (Or.inl (by first | exact hn | assumption)) (rcv_at (by first | exact rw_md hn | exact rw_w hn | exact rw_A hn (by exact rfl) | exact rw_B2 hn | exact rw_B3 hn | assumption) (by decide) (by decide)) (Nat.le_of_ble_eq_true rfl) (Nat.le_of_ble_eq_true rfl) (fun E w9 hq => hq.elim) ?_
    rintro v9 w9 ⟨rfl, rfl⟩
    refine x_reti rfl (Nat.le_of_ble_eq_true rfl) (Nat.le_of_ble_eq_true rfl) rfl ?_
    rw [hcn]
    exact opq_s
theorem r_singular {x n : Int32} {dl : Bool} {np : Nat} (hc : f 4 = nI np) (h60 : np ≤ 60) (hn : w.1 = N0) : Ev g (d + 6) 205 [.ref 1424, .int x, .int n, .int (bI dl)] (rW w m f A B) (OpQ w m f A (some (.int (if okN x np = true then (if n < 0 then -1 else sinF (turnF f (cN x)) (if dl = true then -8 else 8) n) else 0))) (if okN x np = true then 0 else 1)) noX := by
  refine ev_X11_singular ?_ (Nat.le_of_ble_eq_true rfl)
  refine x_lo (lo' := [some (.ref 1424), some (.int x), some (.int n), some (.int (bI dl))]) rfl ?_
  refine x_al rfl rfl ?_
  refine x_c rfl ?_
  refine x_putM rfl hn rfl rfl rfl (mset_0 _ _) ?_
  refine x_al rfl rfl ?_
  refine x_al rfl rfl ?_
  refine x_il rfl rfl ?_
  refine x_call2 (n_noPrint hc (by omega) hn) rfl (Nat.le_of_ble_eq_true rfl) (Or.inl (by first | exact hn | assumption)) (rcv_at (by first | exact rw_md hn | exact rw_w hn | exact rw_A hn (by exact rfl) | exact rw_B2 hn | exact rw_B3 hn | assumption) (by decide) (by decide)) (Nat.le_of_ble_eq_true rfl) (Nat.le_of_ble_eq_true rfl) (fun E w9 hq => hq.elim) ?_
  rintro v9 w9 ⟨rfl, rfl⟩
  refine x_c rfl ?_
  refine x_call3 (n_throwsIf hn) rfl (Nat.le_of_ble_eq_true rfl) (Or.inl (by first | exact hn | assumption)) (rcv_at (by first | exact rw_md hn | exact rw_w hn | exact rw_A hn (by exact rfl) | exact rw_B2 hn | exact rw_B3 hn | assumption) (by decide) (by decide)) (Nat.le_of_ble_eq_true rfl) (Nat.le_of_ble_eq_true rfl) (fun E w9 hq => hq.elim) ?_
  rintro v9 w9 ⟨rfl, rfl⟩
  cases hb : okN x np with
  | false =>
    refine x_ifeq rfl (fun c => absurd c (show ¬ (1 : Int32) = 0 by decide)) (fun c => ?_)
    refine x_c rfl ?_
    refine x_go rfl ?_
    refine x_reti rfl (Nat.le_of_ble_eq_true rfl) (Nat.le_of_ble_eq_true rfl) rfl ?_
    exact opq_t
  | true =>
    obtain ⟨p, hp, rfl, hcn⟩ := ok_of hb (by omega)
    refine x_ifeq rfl (fun c => ?_) (fun c => absurd rfl c)
    refine x_il rfl rfl ?_
    refine x_ifge rfl (fun c1 => ?_) (fun c1 => ?_)
    rotate_left
    · refine x_c rfl ?_
      refine x_go rfl ?_
      refine x_reti rfl (Nat.le_of_ble_eq_true rfl) (Nat.le_of_ble_eq_true rfl) rfl ?_
      rw [if_pos rfl, if_pos (Int32.not_le.mp c1)]
      exact opq_s
    refine x_al rfl rfl ?_
    refine x_il rfl rfl ?_
    refine x_il rfl rfl ?_
    refine x_il rfl rfl ?_
    rw [if_pos rfl, if_neg (Int32.not_lt.mpr c1), hcn]
    cases dl with
    | true =>
      refine x_ifeq rfl (fun c => absurd c (show ¬ (1 : Int32) = 0 by decide)) (fun c => ?_)
      refine x_c rfl ?_
      refine x_go rfl ?_
      refine x_call4 (n_singularOf (by omega) hn) rfl (Nat.le_of_ble_eq_true rfl) (Or.inl (by first | exact hn | assumption)) (rcv_at (by first | exact rw_md hn | exact rw_w hn | exact rw_A hn (by exact rfl) | exact rw_B2 hn | exact rw_B3 hn | assumption) (by decide) (by decide)) (Nat.le_of_ble_eq_true rfl) (Nat.le_of_ble_eq_true rfl) (fun E w9 hq => hq.elim) ?_
      rintro v9 w9 ⟨rfl, rfl⟩
      refine x_reti rfl (Nat.le_of_ble_eq_true rfl) (Nat.le_of_ble_eq_true rfl) rfl ?_
      exact opq_s
    | false =>
      refine x_ifeq rfl (fun c => ?_) (fun c => absurd rfl c)
      refine x_c rfl ?_
      refine x_call4 (n_singularOf (by omega) hn) rfl (Nat.le_of_ble_eq_true rfl) (Or.inl (by first | exact hn | assumption)) (rcv_at (by first | exact rw_md hn | exact rw_w hn | exact rw_A hn (by exact rfl) | exact rw_B2 hn | exact rw_B3 hn | assumption) (by decide) (by decide)) (Nat.le_of_ble_eq_true rfl) (Nat.le_of_ble_eq_true rfl) (fun E w9 hq => hq.elim) ?_
      rintro v9 w9 ⟨rfl, rfl⟩
      refine x_reti rfl (Nat.le_of_ble_eq_true rfl) (Nat.le_of_ble_eq_true rfl) rfl ?_
      exact opq_s
theorem r_turn {x y : Int32} {np : Nat} (hc : f 4 = nI np) (h60 : np ≤ 60) (hn : w.1 = N0) : Ev g (d + 5) 203 [.ref 1424, .int x, .int y] (rW w m f A B) (OpQ w m f A (some (.int (if okN x np = true ∧ okN y 49 = true then turnF f (cN x) (cN y) else 0))) (if okN x np = true ∧ okN y 49 = true then 0 else 1)) noX := by
  refine ev_X11_turn ?_ (Nat.le_of_ble_eq_true rfl)
  refine x_lo (lo' := [some (.ref 1424), some (.int x), some (.int y)]) rfl ?_
  refine x_al rfl rfl ?_
  refine x_c rfl ?_
  refine x_putM rfl hn rfl rfl rfl (mset_0 _ _) ?_
  refine x_al rfl rfl ?_
  refine x_al rfl rfl ?_
  refine x_il rfl rfl ?_
  refine x_call2 (n_noPrint hc (by omega) hn) rfl (Nat.le_of_ble_eq_true rfl) (Or.inl (by first | exact hn | assumption)) (rcv_at (by first | exact rw_md hn | exact rw_w hn | exact rw_A hn (by exact rfl) | exact rw_B2 hn | exact rw_B3 hn | assumption) (by decide) (by decide)) (Nat.le_of_ble_eq_true rfl) (Nat.le_of_ble_eq_true rfl) (fun E w9 hq => hq.elim) ?_
  rintro v9 w9 ⟨rfl, rfl⟩
  have thrown : ¬ (okN x np = true ∧ okN y 49 = true) → EX g mbOf (Ev g (d + 4)) (infoOf 203) k_X11_turn (OpQ w m f A (some (.int (if okN x np = true ∧ okN y 49 = true then turnF f (cN x) (cN y) else 0))) (if okN x np = true ∧ okN y 49 = true then 0 else 1)) noX w.1 (rW w (upd m 0 0) f A B) 0 0 16 [some (.ref 1424), some (.int x), some (.int y)] [.int (bI true), .ref 1424] := by
    intro h
    rw [if_neg h, if_neg h]
    refine x_c rfl ?_
    refine x_call3 (n_throwsIf hn) rfl (Nat.le_of_ble_eq_true rfl) (Or.inl (by first | exact hn | assumption)) (rcv_at (by first | exact rw_md hn | exact rw_w hn | exact rw_A hn (by exact rfl) | exact rw_B2 hn | exact rw_B3 hn | assumption) (by decide) (by decide)) (Nat.le_of_ble_eq_true rfl) (Nat.le_of_ble_eq_true rfl) (fun E w9 hq => hq.elim) ?_
    rintro v9 w9 ⟨rfl, rfl⟩
    refine x_ifeq rfl (fun c => absurd c (show ¬ (1 : Int32) = 0 by decide)) (fun c => ?_)
    refine x_c rfl ?_
    refine x_go rfl ?_
    refine x_reti rfl (Nat.le_of_ble_eq_true rfl) (Nat.le_of_ble_eq_true rfl) rfl ?_
    exact opq_t
  cases hb : okN x np with
  | false =>
    rw [hb] at thrown
    refine x_ifne rfl (fun c => ?_) (fun c => absurd c (show ¬ (1 : Int32) = 0 by decide))
    refine x_c rfl ?_
    refine x_go rfl ?_
    exact thrown (fun h => absurd h.1 (by decide))
  | true =>
    rw [hb] at thrown
    obtain ⟨p, hp, rfl, hcn⟩ := ok_of hb (by omega)
    refine x_ifne rfl (fun c => absurd rfl c) (fun c => ?_)
    refine x_il rfl rfl ?_
    refine x_c rfl ?_
    refine x_c rfl ?_
    refine x_call3 (n_inN (n := 49) 48 (by decide) (by decide)) rfl (Nat.le_of_ble_eq_true rfl) (Or.inl (by first | exact hn | assumption)) trivial (Nat.le_of_ble_eq_true rfl) (Nat.le_of_ble_eq_true rfl) (fun E w9 hq => hq.elim) ?_
    rintro v9 w9 ⟨rfl, rfl⟩
    cases hb2 : okN y 49 with
    | false =>
      rw [hb2] at thrown
      refine x_ifne rfl (fun c => absurd rfl c) (fun c => ?_)
      refine x_c rfl ?_
      refine x_go rfl ?_
      exact thrown (fun h => absurd h.2 (by decide))
    | true =>
      obtain ⟨q, hq, rfl, hcn2⟩ := ok_of hb2 (by omega)
      refine x_ifne rfl (fun c => ?_) (fun c => absurd c (show ¬ (1 : Int32) = 0 by decide))
      refine x_c rfl ?_
      refine x_c rfl ?_
      refine x_call3 (n_throwsIf (b := false) hn) rfl (Nat.le_of_ble_eq_true rfl) (Or.inl (by first | exact hn | assumption)) (rcv_at (by first | exact rw_md hn | exact rw_w hn | exact rw_A hn (by exact rfl) | exact rw_B2 hn | exact rw_B3 hn | assumption) (by decide) (by decide)) (Nat.le_of_ble_eq_true rfl) (Nat.le_of_ble_eq_true rfl) (fun E w9 hq => hq.elim) ?_
      rintro v9 w9 ⟨rfl, rfl⟩
      refine x_ifeq rfl (fun c => ?_) (fun c => absurd rfl c)
      refine x_al rfl rfl ?_
      refine x_il rfl rfl ?_
      refine x_il rfl rfl ?_
      refine x_call3 (n_turnOf (by omega) hq hn) rfl (Nat.le_of_ble_eq_true rfl) (Or.inl (by first | exact hn | assumption)) (rcv_at (by first | exact rw_md hn | exact rw_w hn | exact rw_A hn (by exact rfl) | exact rw_B2 hn | exact rw_B3 hn | assumption) (by decide) (by decide)) (Nat.le_of_ble_eq_true rfl) (Nat.le_of_ble_eq_true rfl) (fun E w9 hq => hq.elim) ?_
      rintro v9 w9 ⟨rfl, rfl⟩
      refine x_reti rfl (Nat.le_of_ble_eq_true rfl) (Nat.le_of_ble_eq_true rfl) rfl ?_
      rw [hcn, hcn2]
      exact opq_s
theorem r_field {x y : Int32} {np : Nat} (hc : f 4 = nI np) (h60 : np ≤ 60) (hn : w.1 = N0) : Ev g (d + 5) 199 [.ref 1424, .int x, .int y] (rW w m f A B) (OpQ w m f A (some (.int (if okN x np = true ∧ okN y 64 = true then f (5 + 97 * cN x + cN y) else 0))) (if okN x np = true ∧ okN y 64 = true then 0 else 1)) noX := by
  refine ev_X11_field ?_ (Nat.le_of_ble_eq_true rfl)
  refine x_lo (lo' := [some (.ref 1424), some (.int x), some (.int y)]) rfl ?_
  refine x_al rfl rfl ?_
  refine x_c rfl ?_
  refine x_putM rfl hn rfl rfl rfl (mset_0 _ _) ?_
  refine x_al rfl rfl ?_
  refine x_al rfl rfl ?_
  refine x_il rfl rfl ?_
  refine x_call2 (n_noPrint hc (by omega) hn) rfl (Nat.le_of_ble_eq_true rfl) (Or.inl (by first | exact hn | assumption)) (rcv_at (by first | exact rw_md hn | exact rw_w hn | exact rw_A hn (by exact rfl) | exact rw_B2 hn | exact rw_B3 hn | assumption) (by decide) (by decide)) (Nat.le_of_ble_eq_true rfl) (Nat.le_of_ble_eq_true rfl) (fun E w9 hq => hq.elim) ?_
  rintro v9 w9 ⟨rfl, rfl⟩
  have thrown : ¬ (okN x np = true ∧ okN y 64 = true) → EX g mbOf (Ev g (d + 4)) (infoOf 199) k_X11_field (OpQ w m f A (some (.int (if okN x np = true ∧ okN y 64 = true then f (5 + 97 * cN x + cN y) else 0))) (if okN x np = true ∧ okN y 64 = true then 0 else 1)) noX w.1 (rW w (upd m 0 0) f A B) 0 0 16 [some (.ref 1424), some (.int x), some (.int y)] [.int (bI true), .ref 1424] := by
    intro h
    rw [if_neg h, if_neg h]
    refine x_c rfl ?_
    refine x_call3 (n_throwsIf hn) rfl (Nat.le_of_ble_eq_true rfl) (Or.inl (by first | exact hn | assumption)) (rcv_at (by first | exact rw_md hn | exact rw_w hn | exact rw_A hn (by exact rfl) | exact rw_B2 hn | exact rw_B3 hn | assumption) (by decide) (by decide)) (Nat.le_of_ble_eq_true rfl) (Nat.le_of_ble_eq_true rfl) (fun E w9 hq => hq.elim) ?_
    rintro v9 w9 ⟨rfl, rfl⟩
    refine x_ifeq rfl (fun c => absurd c (show ¬ (1 : Int32) = 0 by decide)) (fun c => ?_)
    refine x_c rfl ?_
    refine x_go rfl ?_
    refine x_reti rfl (Nat.le_of_ble_eq_true rfl) (Nat.le_of_ble_eq_true rfl) rfl ?_
    exact opq_t
  cases hb : okN x np with
  | false =>
    rw [hb] at thrown
    refine x_ifne rfl (fun c => ?_) (fun c => absurd c (show ¬ (1 : Int32) = 0 by decide))
    refine x_c rfl ?_
    refine x_go rfl ?_
    exact thrown (fun h => absurd h.1 (by decide))
  | true =>
    rw [hb] at thrown
    obtain ⟨p, hp, rfl, hcn⟩ := ok_of hb (by omega)
    refine x_ifne rfl (fun c => absurd rfl c) (fun c => ?_)
    refine x_il rfl rfl ?_
    refine x_c rfl ?_
    refine x_c rfl ?_
    refine x_call3 (n_inN (n := 64) 63 (by decide) (by decide)) rfl (Nat.le_of_ble_eq_true rfl) (Or.inl (by first | exact hn | assumption)) trivial (Nat.le_of_ble_eq_true rfl) (Nat.le_of_ble_eq_true rfl) (fun E w9 hq => hq.elim) ?_
    rintro v9 w9 ⟨rfl, rfl⟩
    cases hb2 : okN y 64 with
    | false =>
      rw [hb2] at thrown
      refine x_ifne rfl (fun c => absurd rfl c) (fun c => ?_)
      refine x_c rfl ?_
      refine x_go rfl ?_
      exact thrown (fun h => absurd h.2 (by decide))
    | true =>
      obtain ⟨q, hq, rfl, hcn2⟩ := ok_of hb2 (by omega)
      refine x_ifne rfl (fun c => ?_) (fun c => absurd c (show ¬ (1 : Int32) = 0 by decide))
      refine x_c rfl ?_
      refine x_c rfl ?_
      refine x_call3 (n_throwsIf (b := false) hn) rfl (Nat.le_of_ble_eq_true rfl) (Or.inl (by first | exact hn | assumption)) (rcv_at (by first | exact rw_md hn | exact rw_w hn | exact rw_A hn (by exact rfl) | exact rw_B2 hn | exact rw_B3 hn | assumption) (by decide) (by decide)) (Nat.le_of_ble_eq_true rfl) (Nat.le_of_ble_eq_true rfl) (fun E w9 hq => hq.elim) ?_
      rintro v9 w9 ⟨rfl, rfl⟩
      refine x_ifeq rfl (fun c => ?_) (fun c => absurd rfl c)
      refine x_al rfl rfl ?_
      refine x_get rfl (rw_md hn) (by exact rfl) ?_
      refine x_il rfl rfl ?_
      refine x_call1 (m_printAt) rfl (Nat.le_of_ble_eq_true rfl) (Or.inl (by first | exact hn | assumption)) trivial (Nat.le_of_ble_eq_true rfl) (Nat.le_of_ble_eq_true rfl) (fun E w9 hq => hq.elim) ?_
      rintro v9 w9 ⟨rfl, rfl⟩
      refine x_il rfl rfl ?_
      refine x_addN rfl ?_
      refine x_iaN rfl (by first | exact rw_md hn | exact rw_w hn | exact rw_A hn (by exact rfl) | exact rw_B2 hn | exact rw_B3 hn | assumption) (by omega) ?_
      refine x_reti rfl (Nat.le_of_ble_eq_true rfl) (Nat.le_of_ble_eq_true rfl) rfl ?_
      rw [hcn, hcn2]
      exact opq_s
end CALLS
