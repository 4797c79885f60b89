/-! the reference reads words -/
theorem mset_0 (M : Nat → Int32) (v : Int32) : (mdF M).set 0 (.int v) = mdF (upd M 0 v) := rfl
theorem mset_3 (M : Nat → Int32) (v : Int32) : (mdF M).set 3 (.int v) = mdF (upd M 3 v) := rfl
theorem mset_5 (M : Nat → Int32) (v : Int32) : (mdF M).set 5 (.int v) = mdF (upd M 5 v) := rfl
theorem mset_6 (M : Nat → Int32) (v : Int32) : (mdF M).set 6 (.int v) = mdF (upd M 6 v) := rfl
theorem mset_7 (M : Nat → Int32) (v : Int32) : (mdF M).set 7 (.int v) = mdF (upd M 7 v) := rfl
theorem mset_8 (M : Nat → Int32) (v : Int32) : (mdF M).set 8 (.int v) = mdF (upd M 8 v) := rfl
theorem mset_9 (M : Nat → Int32) (v : Int32) : (mdF M).set 9 (.int v) = mdF (upd M 9 v) := rfl
theorem mset_10 (M : Nat → Int32) (v : Int32) : (mdF M).set 10 (.int v) = mdF (upd M 10 v) := rfl
theorem mset_13 (M : Nat → Int32) (v : Int32) : (mdF M).set 13 (.int v) = mdF (upd M 13 v) := rfl
theorem mset_14 (M : Nat → Int32) (v : Int32) : (mdF M).set 14 (.int v) = mdF (upd M 14 v) := rfl
theorem mset_15 (M : Nat → Int32) (v : Int32) : (mdF M).set 15 (.int v) = mdF (upd M 15 v) := rfl
theorem mset_16 (M : Nat → Int32) (v : Int32) : (mdF M).set 16 (.int v) = mdF (upd M 16 v) := rfl
theorem mset_17 (M : Nat → Int32) (v : Int32) : (mdF M).set 17 (.int v) = mdF (upd M 17 v) := rfl
theorem mset_20 (M : Nat → Int32) (v : Int32) : (mdF M).set 20 (.int v) = mdF (upd M 20 v) := rfl
theorem mset_23 (M : Nat → Int32) (v : Int32) : (mdF M).set 23 (.int v) = mdF (upd M 23 v) := rfl
/-- the fixed texts' signs: 0 the class's row of words, 1 to 19 the reference's words -/
def txL : Nat → List Nat := fun k => match k with
  | 0 => [115, 97, 109, 101, 32, 100, 111, 117, 98, 116, 32, 110, 101, 101, 100, 32, 102, 105, 110, 103, 101, 114, 115, 32, 107, 101, 101, 112, 32, 115, 116, 114, 105, 107, 101, 32, 105, 102, 32, 97, 110, 100, 32, 111, 114, 32, 110, 111, 116, 32, 103, 114, 97, 118, 101, 32, 99, 104, 105, 108, 100, 32, 99, 108, 101, 97, 114, 101, 100, 32, 103, 117, 105, 108, 116, 121, 32, 112, 97, 105, 114, 115, 32, 97, 103, 97, 105, 110, 115, 116, 32, 112, 111, 105, 110, 116, 115, 32, 99, 108, 97, 115, 115, 32, 97, 103, 101, 32]
  | 1 => [115, 97, 109, 101]
  | 2 => [100, 111, 117, 98, 116]
  | 3 => [110, 101, 101, 100]
  | 4 => [102, 105, 110, 103, 101, 114, 115]
  | 5 => [107, 101, 101, 112]
  | 6 => [115, 116, 114, 105, 107, 101]
  | 7 => [105, 102]
  | 8 => [110, 111, 116]
  | 9 => [103, 114, 97, 118, 101]
  | 10 => [99, 104, 105, 108, 100]
  | 11 => [99, 108, 101, 97, 114, 101, 100]
  | 12 => [103, 117, 105, 108, 116, 121]
  | 13 => [112, 97, 105, 114, 115]
  | 14 => [97, 103, 97, 105, 110, 115, 116]
  | 15 => [112, 111, 105, 110, 116, 115]
  | 16 => [99, 108, 97, 115, 115]
  | 17 => [97, 103, 101]
  | 18 => [97, 110, 100]
  | 19 => [111, 114]
  | _ => []
def txC (k : Nat) : Nat → Int32 := fun j => nI ((txL k).getD j 0)
def txN (k : Nat) : Nat := (txL k).length
/-- the fixed texts lie where they should -/
def HTx (g : aG) : Prop := (∀ k, k < 20 → TxAt g k (txN k) (txC k)) ∧ (g.2 3).category = 1
theorem tx_all : (List.range 20).all (fun k => (txL k).all (fun c => decide (c < 128))) = true := by decide
theorem tx_255 {k : Nat} (hk : k < 20) : ∀ j, j < txN k → txC k j &&& 255 = txC k j := by
  intro j hj
  have h1 := List.all_eq_true.mp (List.all_eq_true.mp tx_all k (List.mem_range.mpr hk)) ((txL k).getD j 0) (by
    rw [List.getD_eq_getElem?_getD, List.getElem?_eq_getElem hj]
    exact List.getElem_mem hj)
  have h2 := of_decide_eq_true h1
  unfold txC
  generalize (txL k).getD j 0 = c at *
  have : ∀ x : Fin 128, nI x.1 &&& 255 = nI x.1 := by decide
  exact this ⟨c, h2⟩
/-- whether the letters from b to p are word k -/
def wdB (t : Nat → Int32) (p b k : Nat) : Bool := decide (p - b = txN k ∧ ∀ j, j < txN k → t (b + j) = txC k j)
theorem wd_iff {t : Nat → Int32} {p b k : Nat} : wdB t p b k = true ↔ isW t p b (txN k) (txC k) := by
  unfold wdB isW
  exact decide_eq_true_iff
theorem runs_idem {t : Nat → Int32} {en p : Nat} {x y : Int32} (hp : p ≤ en) : runs t en x y (runs t en x y p) = runs t en x y p := by
  have : ∀ p, p ≤ en → runs t en x y (runs t en x y p) = runs t en x y p := by
    refine downN en fun p hp ih => ?_
    by_cases h : p < en ∧ x ≤ t p ∧ t p ≤ y
    · rw [runs_t h]; exact ih h.1
    · rw [runs_f h, runs_f h]
  exact this p hp
abbrev wS (t : Nat → Int32) (en p : Nat) : Nat := runs t en 32 32 p
abbrev wE (t : Nat → Int32) (en p : Nat) : Nat := runs t en 97 122 (runs t en 32 32 p)
section WORDS
variable {g : aG} {d : Nat} {w : aW} {m f : Nat → Int32} {A : Nat → Nat → Int32} {B : Nat → Nat → Int64} {pt en : Nat}
theorem n_isWordK {k p b : Nat} (hT : HTx g) (hk : k < 20) (h6 : m 6 = nI p) (h8 : m 8 = nI b) (hb : b ≤ p) (hp : p ≤ 400) (hn : w.1 = N0) : Ev g (d + 5) 190 [.ref 1424, .ref (FB + k)] (rW w m f A B) (RetQ (bI (wdB (A 1427) p b k)) (rW w m f A B)) noX := by
  refine Ev_mono g _ _ _ _ _ _ _ _ (fun v w' hq => ?_) (fun E w' hq => hq) (n_isWord h6 h8 hb hp (hT.1 k hk) hT.2 (tx_255 hk) hn)
  rcases hq.1 with ⟨h1, h2⟩ | ⟨h1, h2⟩
  · exact ⟨by rw [h2, wd_iff.mpr h1]; rfl, hq.2⟩
  · refine ⟨?_, hq.2⟩
    rw [h2]
    cases hh : wdB (A 1427) p b k with
    | true => exact absurd (wd_iff.mp hh) h1
    | false => rfl
theorem n_passes {k : Nat} (hT : HTx g) (hk : k < 20) (h : Tp m pt en) (hn : w.1 = N0) : Ev g (d + 6) 191 [.ref 1424, .ref (FB + k)] (rW w m f A B) (fun v w' => v = some (.int (bI (wdB (A 1427) (wE (A 1427) en pt) (wS (A 1427) en pt) k))) ∧ w' = rW w (tp m (if wdB (A 1427) (wE (A 1427) en pt) (wS (A 1427) en pt) k = true then wE (A 1427) en pt else wS (A 1427) en pt) (wS (A 1427) en pt)) f A B) noX := by
  have hen := h.2.2.2
  have l1 : runs (A 1427) en 32 32 pt ≤ en := runs_le h.2.2.1
  have l2 : runs (A 1427) en 97 122 (runs (A 1427) en 32 32 pt) ≤ en := runs_le l1
  have l3 : runs (A 1427) en 32 32 pt ≤ runs (A 1427) en 97 122 (runs (A 1427) en 32 32 pt) := runs_ge
  refine ev_X11_passes ?_ (Nat.le_of_ble_eq_true rfl)
  refine x_lo (lo' := [some (.ref 1424), some (.ref (FB + k))]) rfl ?_
  refine x_al rfl rfl ?_
  refine x_call1 (n_word h hn) rfl (Nat.le_of_ble_eq_true rfl) (Or.inl (by first | exact hn | assumption)) (rcv_at (by first | exact rw_md hn | exact rw_w hn | exact rw_A hn (by exact rfl) | exact rw_B2 hn | exact rw_B3 hn | assumption) (by decide) (by decide)) (Nat.le_of_ble_eq_true rfl) (Nat.le_of_ble_eq_true rfl) (fun E w9 hq => hq.elim) ?_
  rintro v9 w9 ⟨rfl, rfl⟩
  refine x_al rfl rfl ?_
  refine x_al rfl rfl ?_
  refine x_call2 (n_isWordK hT hk tp_6 tp_8 l3 (by omega) hn) rfl (Nat.le_of_ble_eq_true rfl) (Or.inl (by first | exact hn | assumption)) (rcv_at (by first | exact rw_md hn | exact rw_w hn | exact rw_A hn (by exact rfl) | exact rw_B2 hn | exact rw_B3 hn | assumption) (by decide) (by decide)) (Nat.le_of_ble_eq_true rfl) (Nat.le_of_ble_eq_true rfl) (fun E w9 hq => hq.elim) ?_
  rintro v9 w9 ⟨rfl, rfl⟩
  refine x_ifeq rfl (fun c1 => ?_) (fun c1 => ?_)
  · refine x_al rfl rfl ?_
    refine x_al rfl rfl ?_
    refine x_get rfl (rw_md hn) (by exact rfl) ?_
    refine x_putM rfl hn rfl rfl rfl (mset_6 _ _) ?_
    refine x_c rfl ?_
    refine x_retz rfl (Nat.le_of_ble_eq_true rfl) (Nat.le_of_ble_eq_true rfl) rfl (by first | rfl | assumption) ?_
    refine ⟨by rw [bI_z.mp c1]; rfl, ?_⟩
    rw [if_neg (by rw [bI_z.mp c1]; decide)]
    rw [tp_8, tp_u6]
  refine x_c rfl ?_
  refine x_retz rfl (Nat.le_of_ble_eq_true rfl) (Nat.le_of_ble_eq_true rfl) rfl (by first | rfl | assumption) ?_
  have c1 : wdB (A 1427) (runs (A 1427) en 97 122 (runs (A 1427) en 32 32 pt)) (runs (A 1427) en 32 32 pt) k = true := by
    cases hh : wdB (A 1427) (runs (A 1427) en 97 122 (runs (A 1427) en 32 32 pt)) (runs (A 1427) en 32 32 pt) k with
    | true => rfl
    | false => rw [hh] at c1; exact absurd rfl c1
  exact ⟨by rw [c1]; rfl, by rw [if_pos c1]⟩
theorem n_emits {st : Nat} {s n : Int32} (h23 : m 23 = nI st) (hst : st < 400) (hn : w.1 = N0) : Ev g (d + 2) 250 [.ref 1424, .int s, .int n] (rW w m f A B) (VoidQ (rW w (upd m 23 (nI (st + 1))) (upd (upd f (21376 + 2 * st) s) (21376 + 2 * st + 1) n) A B)) noX := by
  refine ev_X11_emits ?_ (Nat.le_of_ble_eq_true rfl)
  refine x_lo (lo' := [some (.ref 1424), some (.int s), some (.int n), none]) rfl ?_
  refine x_c rfl ?_
  refine x_call1 (m_textAt (p := 10)) rfl (Nat.le_of_ble_eq_true rfl) (Or.inl (by first | exact hn | assumption)) trivial (Nat.le_of_ble_eq_true rfl) (Nat.le_of_ble_eq_true rfl) (fun E w9 hq => hq.elim) ?_
  rintro v9 w9 ⟨rfl, rfl⟩
  refine x_c rfl ?_
  refine x_addN (y := 50) rfl ?_
  refine x_c rfl ?_
  refine x_al rfl rfl ?_
  refine x_get rfl (rw_md hn) (by exact rfl) ?_
  rw [h23]
  refine x_mulN (x := 2) rfl ?_
  refine x_addN rfl ?_
  refine x_is (lo' := [_, _, _, _]) rfl (Nat.le_of_ble_eq_true rfl) rfl ?_
  refine x_al rfl rfl ?_
  refine x_get rfl (rw_md hn) (by exact rfl) ?_
  refine x_il rfl rfl ?_
  refine x_il rfl rfl ?_
  rw [show 12826 + 850 * 10 + 50 + 2 * st = 21376 + 2 * st by omega]
  first | refine x_iasW rfl hn (by omega) ?_ | refine x_iasA rfl hn (by exact rfl) (by omega) ?_
  refine x_al rfl rfl ?_
  refine x_get rfl (rw_md hn) (by exact rfl) ?_
  refine x_il rfl rfl ?_
  refine x_c rfl ?_
  refine x_addN (y := 1) rfl ?_
  refine x_il rfl rfl ?_
  first | refine x_iasW rfl hn (by omega) ?_ | refine x_iasA rfl hn (by exact rfl) (by omega) ?_
  refine x_al rfl rfl ?_
  refine x_dup rfl rfl ?_
  refine x_get rfl (rw_md hn) (by exact rfl) ?_
  rw [h23]
  refine x_c rfl ?_
  refine x_addN (y := 1) rfl ?_
  refine x_putM rfl hn rfl rfl rfl (mset_23 _ _) ?_
  refine x_retv rfl (Nat.le_of_ble_eq_true rfl) (Nat.le_of_ble_eq_true rfl) rfl ?_
  exact ⟨rfl, rfl⟩
end WORDS
