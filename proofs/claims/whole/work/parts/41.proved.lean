/-! proved, alike, persons -/
/-- a print's number on a finger as it should be: none, or one of 60 -/
def FO (x : Int32) : Prop := x < 0 ∨ ∃ p, p < 60 ∧ x = nI p
def WF1 (f : Nat → Int32) (nc : Nat) : Prop := f 6606 = nI nc ∧ nc ≤ 16 ∧ ∀ c, c < nc → ∀ j, j < 10 → FO (f (6607 + 26 * c + (6 + j)))
def vM (f : Nat → Int32) (n k p : Nat) (day : Int32) : Int32 := judF f (bestT f day n) (tgM f k) (fcM f k p day)
def vP (f : Nat → Int32) (n p q : Nat) (day : Int32) : Int32 := judF f (bestT f day n) (fun _ => false) (fcP f p q)
def sameN (f : Nat → Int32) (ns k c i : Nat) (day : Int32) : Nat → Nat := cn (fun e => sdF f (nI e) (nI k) (nI c) (nI i) day ns == 1)
def notN (f : Nat → Int32) (ns k c i : Nat) (day : Int32) : Nat → Nat := cn (fun e => sdF f (nI e) (nI k) (nI c) (nI i) day ns == 0)
abbrev prvP (f : Nat → Int32) (n ns k c i : Nat) (day : Int32) : Prop := 0 ≤ f (6607 + 26 * c + (6 + i)) ∧ notN f ns k c i day 6 = 0 ∧ lastF f (bestT f day n) 2 1 ≤ nI (sameN f ns k c i day 6) ∧ vM f n k (cN (f (6607 + 26 * c + (6 + i)))) day = 2
abbrev alkP (f : Nat → Int32) (n a b : Nat) (day : Int32) (j : Nat) : Prop := 0 ≤ f (6607 + 26 * a + (6 + j)) ∧ 0 ≤ f (6607 + 26 * b + (6 + j)) ∧ clsF f (cN (f (6607 + 26 * a + (6 + j)))) = clsF f (cN (f (6607 + 26 * b + (6 + j)))) ∧ vP f n (cN (f (6607 + 26 * a + (6 + j)))) (cN (f (6607 + 26 * b + (6 + j)))) day = 2
def alkN (f : Nat → Int32) (n a b : Nat) (day : Int32) : Nat → Nat := cn (fun j => decide (alkP f n a b day j))
section PROVED
variable {g : aG} {d : Nat} {w : aW} {m f : Nat → Int32} {A : Nat → Nat → Int32} {B : Nat → Nat → Int64}
theorem keepS_r {M : Nat → Int32} : keepS M M := fun _ _ _ => rfl
theorem keepB_r {M : Nat → Nat → Int32} : keepB M M := fun _ _ => rfl
theorem n_looksM {k p : Nat} {day : Int32} (hW : WP f) (hk : k < 20) (hp : p < 60) (hn : w.1 = N0) : Ev g (d + 14) 263 [.ref 1424, .int (nI k), .int (nI p), .int day] (rW w m f A B) (ScQ w m f A B (fun v m' A' => v = none ∧ BM m' (layMk f k p) ∧ Fc A' (tgM f k) (fcM f k p day))) noX := by
  have h1 := hW.2 k hk
  have h2 := hW.1 p hp
  have := n_looksAtLay (g := g) (d := d) (w := w) (m := m) (f := f) (A := A) (B := B) (day := day) hk hp h1.1 h2.1 h1.2 h2.2 hn
  rw [← h1.1] at this
  exact this
theorem n_isProved {n ns k c i : Nat} {day : Int32} (hT : WT f n) (hW : WP f) (hs : f 10223 = nI ns) (h200 : ns ≤ 200) (hk : k < 20) (hc : c < 16) (hi : i < 10) (hf : FO (f (6607 + 26 * c + (6 + i)))) (hn : w.1 = N0) : Ev g (d + 15) 274 [.ref 1424, .int (nI k), .int (nI c), .int (nI i), .int day] (rW w m f A B) (ScQ w m f A B (fun v m' A' => v = some (.int (bI (decide (prvP f n ns k c i day)))))) noX := by
  generalize hP : decide (prvP f n ns k c i day) = P
  refine ev_X11_isProved ?_ (Nat.le_of_ble_eq_true rfl)
  refine x_lo (lo' := [some (.ref 1424), some (.int (nI k)), some (.int (nI c)), some (.int (nI i)), some (.int day), none, none, none, none, none]) rfl ?_
  refine x_al rfl rfl ?_
  refine x_il rfl rfl ?_
  refine x_c rfl ?_
  refine x_il rfl rfl ?_
  refine x_addN (x := 6) rfl ?_
  refine x_call3 (n_of (by omega) hn) rfl (Nat.le_of_ble_eq_true rfl) (Or.inl (by first | exact hn | assumption)) (rcv_at (by first | exact rw_md hn | exact rw_w hn | exact rw_A hn (by exact rfl) | exact rw_B2 hn | exact rw_B3 hn | assumption) (by decide) (by decide)) (Nat.le_of_ble_eq_true rfl) (Nat.le_of_ble_eq_true rfl) (fun E w9 hq => hq.elim) ?_
  rintro v9 w9 ⟨rfl, rfl⟩
  refine x_is (lo' := [_, _, _, _, _, _, _, _, _, _]) rfl (Nat.le_of_ble_eq_true rfl) rfl ?_
  refine x_c rfl ?_
  refine x_is (lo' := [_, _, _, _, _, _, _, _, _, _]) rfl (Nat.le_of_ble_eq_true rfl) rfl ?_
  refine x_c rfl ?_
  refine x_is (lo' := [_, _, _, _, _, _, _, _, _, _]) rfl (Nat.le_of_ble_eq_true rfl) rfl ?_
  refine x_c rfl ?_
  refine x_is (lo' := [_, _, _, _, _, _, _, _, _, _]) rfl (Nat.le_of_ble_eq_true rfl) rfl ?_
  have no : ¬ prvP f n ns k c i day → ∀ l5 l6 l7 l8 l9, EX g mbOf (Ev g (d + 14)) (infoOf 274) k_X11_isProved (ScQ w m f A B (fun v m' A' => v = some (.int (bI P)))) noX w.1 (rW w m f A B) 0 0 54 [some (.ref 1424), some (.int (nI k)), some (.int (nI c)), some (.int (nI i)), some (.int day), l5, l6, l7, l8, l9] [] := by
    intro h l5 l6 l7 l8 l9
    refine x_c rfl ?_
    refine x_retz rfl (Nat.le_of_ble_eq_true rfl) (Nat.le_of_ble_eq_true rfl) rfl (by first | rfl | assumption) ?_
    exact ⟨m, A, rfl, keepS_r, keepB_r, by rw [← hP, bI_f h]⟩
  have loop : ∀ e, e ≤ 6 → ∀ l9, EX g mbOf (Ev g (d + 14)) (infoOf 274) k_X11_isProved (ScQ w m f A B (fun v m' A' => v = some (.int (bI P)))) noX w.1 (rW w m f A B) 0 0 13 [some (.ref 1424), some (.int (nI k)), some (.int (nI c)), some (.int (nI i)), some (.int day), some (.int (f (6607 + 26 * c + (6 + i)))), some (.int (nI (sameN f ns k c i day e))), some (.int (bI (decide (¬ notN f ns k c i day e = 0)))), some (.int (nI e)), l9] [] := by
    refine downN 6 fun e he ih => ?_
    intro l9
    refine x_il rfl rfl ?_
    refine x_c rfl ?_
    refine x_icgeN (y := 6) rfl (by omega) (fun c0 => ?_) (fun c0 => ?_)
    · refine x_il rfl rfl ?_
      obtain rfl : e = 6 := by omega
      refine x_iflt rfl (fun c1 => ?_) (fun c1 => ?_)
      · skip
        exact no (fun h => absurd c1 (Int32.not_lt.mpr h.1)) _ _ _ _ _
      refine x_il rfl rfl ?_
      have c1 := Int32.not_lt.mp c1
      refine x_ifneB rfl (fun c2 => ?_) (fun c2 => ?_)
      · skip
        exact no (fun h => c2 h.2.1) _ _ _ _ _
      refine x_il rfl rfl ?_
      refine x_al rfl rfl ?_
      refine x_il rfl rfl ?_
      refine x_c rfl ?_
      refine x_c rfl ?_
      have c2 : notN f ns k c i day 6 = 0 := Decidable.byContradiction fun h => c2 h
      refine x_call4 (n_lastNumber hT hn) rfl (Nat.le_of_ble_eq_true rfl) (Or.inl (by first | exact hn | assumption)) (rcv_at (by first | exact rw_md hn | exact rw_w hn | exact rw_A hn (by exact rfl) | exact rw_B2 hn | exact rw_B3 hn | assumption) (by decide) (by decide)) (Nat.le_of_ble_eq_true rfl) (Nat.le_of_ble_eq_true rfl) (fun E w9 hq => hq.elim) ?_
      rintro v9 w9 ⟨rfl, rfl⟩
      refine x_icge rfl (fun c3 => ?_) (fun c3 => ?_)
      rotate_left
      · skip
        exact no (fun h => c3 h.2.2.1) _ _ _ _ _
      refine x_al rfl rfl ?_
      refine x_il rfl rfl ?_
      refine x_il rfl rfl ?_
      refine x_il rfl rfl ?_
      rcases hf with hf | ⟨p, hp, hpe⟩
      · exact absurd hf (Int32.not_lt.mpr c1)
      have hcn : cN (f (6607 + 26 * c + (6 + i))) = p := by rw [hpe]; exact nI_clamp (by omega)
      rw [hpe]
      refine x_call4 (n_looksM hW hk hp hn) rfl (Nat.le_of_ble_eq_true rfl) (Or.inl (by first | exact hn | assumption)) (rcv_at (by first | exact rw_md hn | exact rw_w hn | exact rw_A hn (by exact rfl) | exact rw_B2 hn | exact rw_B3 hn | assumption) (by decide) (by decide)) (Nat.le_of_ble_eq_true rfl) (Nat.le_of_ble_eq_true rfl) (fun E w9 hq => hq.elim) ?_
      rintro v9 w9 ⟨M', A2, rfl, hk', hA', rfl, hBM, hFc⟩
      refine x_al rfl rfl ?_
      refine x_il rfl rfl ?_
      refine x_call2 (n_judges hT hFc hn) rfl (Nat.le_of_ble_eq_true rfl) (Or.inl (by first | exact hn | assumption)) (rcv_at (by first | exact rw_md hn | exact rw_w hn | exact rw_A hn (by exact rfl) | exact rw_B2 hn | exact rw_B3 hn | assumption) (by decide) (by decide)) (Nat.le_of_ble_eq_true rfl) (Nat.le_of_ble_eq_true rfl) (fun E w9 hq => hq.elim) ?_
      rintro v9 w9 ⟨rfl, mt, rfl⟩
      refine x_c rfl ?_
      refine x_icne rfl (fun c4 => ?_) (fun c4 => ?_)
      · refine x_c rfl ?_
        refine x_retz rfl (Nat.le_of_ble_eq_true rfl) (Nat.le_of_ble_eq_true rfl) rfl (by first | rfl | assumption) ?_
        refine ⟨M', _, rfl, hk', keepB_t hA' (keepB_u (by decide)), ?_⟩
        rw [← hP, bI_f (fun h => c4 (by have := h.2.2.2; rw [hcn] at this; exact this))]
      refine x_c rfl ?_
      refine x_go rfl ?_
      refine x_retz rfl (Nat.le_of_ble_eq_true rfl) (Nat.le_of_ble_eq_true rfl) rfl (by first | rfl | assumption) ?_
      refine ⟨M', _, rfl, hk', keepB_t hA' (keepB_u (by decide)), ?_⟩
      rw [← hP, bI_t ⟨c1, c2, c3, by rw [hcn]; exact c4⟩]
    refine x_al rfl rfl ?_
    refine x_il rfl rfl ?_
    refine x_il rfl rfl ?_
    refine x_il rfl rfl ?_
    refine x_il rfl rfl ?_
    refine x_il rfl rfl ?_
    have l6 := cn_le (fun e => sdF f (nI e) (nI k) (nI c) (nI i) day ns == 1) e
    refine x_call6 (n_saidOf hs h200 hn) rfl (Nat.le_of_ble_eq_true rfl) (Or.inl (by first | exact hn | assumption)) (rcv_at (by first | exact rw_md hn | exact rw_w hn | exact rw_A hn (by exact rfl) | exact rw_B2 hn | exact rw_B3 hn | assumption) (by decide) (by decide)) (Nat.le_of_ble_eq_true rfl) (Nat.le_of_ble_eq_true rfl) (fun E w9 hq => hq.elim) ?_
    rintro v9 w9 ⟨rfl, rfl⟩
    refine x_is (lo' := [_, _, _, _, _, _, _, _, _, _]) rfl (Nat.le_of_ble_eq_true rfl) rfl ?_
    refine x_il rfl rfl ?_
    refine x_il rfl rfl ?_
    refine x_c rfl ?_
    have ih := ih c0
    have hsn : sameN f ns k c i day (e + 1) = sameN f ns k c i day e + if (sdF f (nI e) (nI k) (nI c) (nI i) day ns == 1) = true then 1 else 0 := rfl
    have hno : notN f ns k c i day (e + 1) = notN f ns k c i day e + if (sdF f (nI e) (nI k) (nI c) (nI i) day ns == 0) = true then 1 else 0 := rfl
    rw [hsn, hno] at ih
    generalize sdF f (nI e) (nI k) (nI c) (nI i) day ns = v at *
    generalize sameN f ns k c i day e = sn at *
    generalize notN f ns k c i day e = nn at *
    have tail : ∀ x, x = sn + (if (v == 1) = true then 1 else 0) → EX g mbOf (Ev g (d + 14)) (infoOf 274) k_X11_isProved (ScQ w m f A B (fun v m' A' => v = some (.int (bI P)))) noX w.1 (rW w m f A B) 0 0 33 [some (.ref 1424), some (.int (nI k)), some (.int (nI c)), some (.int (nI i)), some (.int day), some (.int (f (6607 + 26 * c + (6 + i)))), some (.int (nI x)), some (.int (bI (decide (¬ nn = 0)))), some (.int (nI e)), some (.int v)] [] := by
      intro x hx
      rw [← hx] at ih
      have fin : ∀ b : Bool, (b = true ↔ ¬ (nn + if (v == 0) = true then 1 else 0) = 0) → EX g mbOf (Ev g (d + 14)) (infoOf 274) k_X11_isProved (ScQ w m f A B (fun v m' A' => v = some (.int (bI P)))) noX w.1 (rW w m f A B) 0 0 40 [some (.ref 1424), some (.int (nI k)), some (.int (nI c)), some (.int (nI i)), some (.int day), some (.int (f (6607 + 26 * c + (6 + i)))), some (.int (nI x)), some (.int (bI (decide (¬ nn = 0)))), some (.int (nI e)), some (.int v)] [.int (bI b)] := by
        intro b hb
        have hd : decide (¬ (nn + if (v == 0) = true then 1 else 0) = 0) = b := by
          cases b
          · exact decide_eq_false (fun h => absurd (hb.mpr h) (by decide))
          · exact decide_eq_true (hb.mp rfl)
        rw [hd] at ih
        refine x_is (lo' := [_, _, _, _, _, _, _, _, _, _]) rfl (Nat.le_of_ble_eq_true rfl) rfl ?_
        refine x_inc1 (lo' := [_, _, _, _, _, _, _, _, _, _]) rfl rfl rfl ?_
        refine x_go rfl ?_
        exact ih _
      refine x_il rfl rfl ?_
      refine x_ifneB rfl (fun c1 => ?_) (fun c1 => ?_)
      · refine x_c rfl ?_
        refine x_go rfl ?_
        exact fin true (by constructor; intro _; omega; intro _; rfl)
      refine x_il rfl rfl ?_
      have c1 : nn = 0 := Decidable.byContradiction fun h => c1 h
      refine x_ifne rfl (fun c2 => ?_) (fun c2 => ?_)
      · refine x_c rfl ?_
        have e0 : (v == 0) = false := by simpa using c2
        exact fin false (by constructor; intro h; cases h; intro h; rw [e0] at h; exact absurd (by simp [c1]) h)
      refine x_c rfl ?_
      refine x_go rfl ?_
      have e0 : (v == 0) = true := by simpa using c2
      exact fin true (by constructor; intro _; rw [e0]; simp; intro _; rfl)
    refine x_icne rfl (fun c1 => ?_) (fun c1 => ?_)
    · refine x_c rfl ?_
      refine x_addN (y := 0) rfl ?_
      refine x_is (lo' := [_, _, _, _, _, _, _, _, _, _]) rfl (Nat.le_of_ble_eq_true rfl) rfl ?_
      exact tail _ (by rw [if_neg (by simpa using c1)])
    refine x_c rfl ?_
    refine x_go rfl ?_
    refine x_addN (y := 1) rfl ?_
    refine x_is (lo' := [_, _, _, _, _, _, _, _, _, _]) rfl (Nat.le_of_ble_eq_true rfl) rfl ?_
    exact tail _ (by rw [if_pos (by simpa using c1)])
  exact loop 0 (by decide) _
theorem n_alikeOf {n nc a b : Nat} {day : Int32} (hT : WT f n) (hW : WP f) (hF1 : WF1 f nc) (ha : a < nc) (hb : b < nc) (hn : w.1 = N0) : Ev g (d + 13) 276 [.ref 1424, .int (nI a), .int (nI b), .int day] (rW w m f A B) (ScQ w m f A B (fun v m' A' => v = some (.int (nI (alkN f n (min a b) (max a b) day 10))))) noX := by
  have hnc := hF1.2.1
  generalize hP : alkN f n (min a b) (max a b) day 10 = P
  refine ev_X11_alikeOf ?_ (Nat.le_of_ble_eq_true rfl)
  refine x_lo (lo' := [some (.ref 1424), some (.int (nI a)), some (.int (nI b)), some (.int day), none, none, none, none, none, none]) rfl ?_
  refine x_il rfl rfl ?_
  refine x_il rfl rfl ?_
  refine x_call2 (m_minN (by omega)) rfl (Nat.le_of_ble_eq_true rfl) (Or.inl (by first | exact hn | assumption)) trivial (Nat.le_of_ble_eq_true rfl) (Nat.le_of_ble_eq_true rfl) (fun E w9 hq => hq.elim) ?_
  rintro v9 w9 ⟨rfl, rfl⟩
  refine x_is (lo' := [_, _, _, _, _, _, _, _, _, _]) rfl (Nat.le_of_ble_eq_true rfl) rfl ?_
  refine x_il rfl rfl ?_
  refine x_il rfl rfl ?_
  refine x_call2 (m_maxN (by omega)) rfl (Nat.le_of_ble_eq_true rfl) (Or.inl (by first | exact hn | assumption)) trivial (Nat.le_of_ble_eq_true rfl) (Nat.le_of_ble_eq_true rfl) (fun E w9 hq => hq.elim) ?_
  rintro v9 w9 ⟨rfl, rfl⟩
  refine x_is (lo' := [_, _, _, _, _, _, _, _, _, _]) rfl (Nat.le_of_ble_eq_true rfl) rfl ?_
  refine x_c rfl ?_
  refine x_is (lo' := [_, _, _, _, _, _, _, _, _, _]) rfl (Nat.le_of_ble_eq_true rfl) rfl ?_
  refine x_c rfl ?_
  refine x_is (lo' := [_, _, _, _, _, _, _, _, _, _]) rfl (Nat.le_of_ble_eq_true rfl) rfl ?_
  have hlo : min a b < nc := by omega
  have hhi : max a b < nc := by omega
  generalize min a b = lo at *
  generalize max a b = hi at *
  have loop : ∀ j, j ≤ 10 → ∀ m' A' l8 l9, keepS m m' → keepB A A' → EX g mbOf (Ev g (d + 12)) (infoOf 276) k_X11_alikeOf (ScQ w m f A B (fun v m' A' => v = some (.int (nI P)))) noX w.1 (rW w m' f A' B) 0 0 12 [some (.ref 1424), some (.int (nI a)), some (.int (nI b)), some (.int day), some (.int (nI lo)), some (.int (nI hi)), some (.int (nI (alkN f n lo hi day j))), some (.int (nI j)), l8, l9] [] := by
    refine downN 10 fun j hj ih => ?_
    intro m' A' l8 l9 hk hA
    refine x_il rfl rfl ?_
    refine x_c rfl ?_
    refine x_icgeN (y := 10) rfl (by omega) (fun c0 => ?_) (fun c0 => ?_)
    · refine x_il rfl rfl ?_
      refine x_reti rfl (Nat.le_of_ble_eq_true rfl) (Nat.le_of_ble_eq_true rfl) rfl ?_
      obtain rfl : j = 10 := by omega
      exact ⟨m', A', rfl, hk, hA, by rw [hP]⟩
    refine x_al rfl rfl ?_
    refine x_il rfl rfl ?_
    refine x_c rfl ?_
    refine x_il rfl rfl ?_
    refine x_addN (x := 6) rfl ?_
    have l6 := cn_le (fun j => decide (alkP f n lo hi day j)) j
    have ih := ih c0
    have hst : alkN f n lo hi day (j + 1) = alkN f n lo hi day j + if decide (alkP f n lo hi day j) = true then 1 else 0 := rfl
    rw [hst] at ih
    have hl6 : alkN f n lo hi day j ≤ j := l6
    generalize alkN f n lo hi day j = an at *
    have next : ∀ x, x = an + (if decide (alkP f n lo hi day j) = true then 1 else 0) → ∀ m' A' l8 l9, keepS m m' → keepB A A' → EX g mbOf (Ev g (d + 12)) (infoOf 276) k_X11_alikeOf (ScQ w m f A B (fun v m' A' => v = some (.int (nI P)))) noX w.1 (rW w m' f A' B) 0 0 83 [some (.ref 1424), some (.int (nI a)), some (.int (nI b)), some (.int day), some (.int (nI lo)), some (.int (nI hi)), some (.int (nI x)), some (.int (nI j)), l8, l9] [] := by
      intro x hx m' A' l8 l9 hk hA
      rw [← hx] at ih
      refine x_inc1 (lo' := [_, _, _, _, _, _, _, _, _, _]) rfl rfl rfl ?_
      refine x_go rfl ?_
      exact ih _ _ _ _ hk hA
    have skip : ¬ alkP f n lo hi day j → ∀ l8 l9, EX g mbOf (Ev g (d + 12)) (infoOf 276) k_X11_alikeOf (ScQ w m f A B (fun v m' A' => v = some (.int (nI P)))) noX w.1 (rW w m' f A' B) 0 0 83 [some (.ref 1424), some (.int (nI a)), some (.int (nI b)), some (.int day), some (.int (nI lo)), some (.int (nI hi)), some (.int (nI an)), some (.int (nI j)), l8, l9] [] := by
      intro h l8 l9
      exact next an (by rw [if_neg (by rw [decide_eq_true_iff]; exact h)]; rfl) _ _ _ _ hk hA
    refine x_call3 (n_of (by omega) hn) rfl (Nat.le_of_ble_eq_true rfl) (Or.inl (by first | exact hn | assumption)) (rcv_at (by first | exact rw_md hn | exact rw_w hn | exact rw_A hn (by exact rfl) | exact rw_B2 hn | exact rw_B3 hn | assumption) (by decide) (by decide)) (Nat.le_of_ble_eq_true rfl) (Nat.le_of_ble_eq_true rfl) (fun E w9 hq => hq.elim) ?_
    rintro v9 w9 ⟨rfl, rfl⟩
    refine x_is (lo' := [_, _, _, _, _, _, _, _, _, _]) rfl (Nat.le_of_ble_eq_true rfl) rfl ?_
    refine x_al rfl rfl ?_
    refine x_il rfl rfl ?_
    refine x_c rfl ?_
    refine x_il rfl rfl ?_
    refine x_addN (x := 6) rfl ?_
    refine x_call3 (n_of (by omega) hn) rfl (Nat.le_of_ble_eq_true rfl) (Or.inl (by first | exact hn | assumption)) (rcv_at (by first | exact rw_md hn | exact rw_w hn | exact rw_A hn (by exact rfl) | exact rw_B2 hn | exact rw_B3 hn | assumption) (by decide) (by decide)) (Nat.le_of_ble_eq_true rfl) (Nat.le_of_ble_eq_true rfl) (fun E w9 hq => hq.elim) ?_
    rintro v9 w9 ⟨rfl, rfl⟩
    refine x_is (lo' := [_, _, _, _, _, _, _, _, _, _]) rfl (Nat.le_of_ble_eq_true rfl) rfl ?_
    refine x_il rfl rfl ?_
    have fo := hF1.2.2 lo hlo j (by omega)
    have fh := hF1.2.2 hi hhi j (by omega)
    refine x_iflt rfl (fun c1 => ?_) (fun c1 => ?_)
    · skip
      exact skip (fun h => absurd c1 (Int32.not_lt.mpr h.1)) _ _
    refine x_il rfl rfl ?_
    have c1 := Int32.not_lt.mp c1
    refine x_iflt rfl (fun c2 => ?_) (fun c2 => ?_)
    · skip
      exact skip (fun h => absurd c2 (Int32.not_lt.mpr h.2.1)) _ _
    refine x_al rfl rfl ?_
    refine x_il rfl rfl ?_
    have c2 := Int32.not_lt.mp c2
    rcases fo with fo | ⟨p, hp, ep⟩
    · exact absurd fo (Int32.not_lt.mpr c1)
    rcases fh with fh | ⟨q, hq, eq⟩
    · exact absurd fh (Int32.not_lt.mpr c2)
    have cp : cN (f (6607 + 26 * lo + (6 + j))) = p := by rw [ep]; exact nI_clamp (by omega)
    have cq : cN (f (6607 + 26 * hi + (6 + j))) = q := by rw [eq]; exact nI_clamp (by omega)
    have hal : alkP f n lo hi day j ↔ clsF f p = clsF f q ∧ vP f n p q day = 2 := by
      unfold alkP
      rw [cp, cq]
      exact ⟨fun h => h.2.2, fun h => ⟨c1, c2, h⟩⟩
    generalize hQ : decide (alkP f n lo hi day j) = dq at *
    rw [ep, eq]
    refine x_call2 (n_classOfPrint hp hn) rfl (Nat.le_of_ble_eq_true rfl) (Or.inl (by first | exact hn | assumption)) (rcv_at (by first | exact rw_md hn | exact rw_w hn | exact rw_A hn (by exact rfl) | exact rw_B2 hn | exact rw_B3 hn | assumption) (by decide) (by decide)) (Nat.le_of_ble_eq_true rfl) (Nat.le_of_ble_eq_true rfl) (fun E w9 hq => hq.elim) ?_
    rintro v9 w9 ⟨rfl, rfl⟩
    refine x_al rfl rfl ?_
    refine x_il rfl rfl ?_
    refine x_call2 (n_classOfPrint hq hn) rfl (Nat.le_of_ble_eq_true rfl) (Or.inl (by first | exact hn | assumption)) (rcv_at (by first | exact rw_md hn | exact rw_w hn | exact rw_A hn (by exact rfl) | exact rw_B2 hn | exact rw_B3 hn | assumption) (by decide) (by decide)) (Nat.le_of_ble_eq_true rfl) (Nat.le_of_ble_eq_true rfl) (fun E w9 hq => hq.elim) ?_
    rintro v9 w9 ⟨rfl, rfl⟩
    refine x_iceq rfl (fun c3 => ?_) (fun c3 => ?_)
    rotate_left
    · refine x_go rfl ?_
      exact skip (fun h => c3 (hal.mp h).1) _ _
    refine x_al rfl rfl ?_
    refine x_il rfl rfl ?_
    refine x_call1 (m_printAt) rfl (Nat.le_of_ble_eq_true rfl) (Or.inl (by first | exact hn | assumption)) trivial (Nat.le_of_ble_eq_true rfl) (Nat.le_of_ble_eq_true rfl) (fun E w9 hq => hq.elim) ?_
    rintro v9 w9 ⟨rfl, rfl⟩
    refine x_c rfl ?_
    refine x_addN (y := 64) rfl ?_
    refine x_il rfl rfl ?_
    refine x_call1 (m_printAt) rfl (Nat.le_of_ble_eq_true rfl) (Or.inl (by first | exact hn | assumption)) trivial (Nat.le_of_ble_eq_true rfl) (Nat.le_of_ble_eq_true rfl) (fun E w9 hq => hq.elim) ?_
    rintro v9 w9 ⟨rfl, rfl⟩
    refine x_c rfl ?_
    refine x_addN (y := 64) rfl ?_
    refine x_c rfl ?_
    refine x_c rfl ?_
    refine x_c rfl ?_
    refine x_c rfl ?_
    have hp1 := hW.1 p hp
    have hq1 := hW.1 q hq
    refine x_call7 (n_lays hp1.1 hq1.1 hp1.2 hq1.2 (by omega) (by omega) hn) rfl (Nat.le_of_ble_eq_true rfl) (Or.inl (by first | exact hn | assumption)) (rcv_at (by first | exact rw_md hn | exact rw_w hn | exact rw_A hn (by exact rfl) | exact rw_B2 hn | exact rw_B3 hn | assumption) (by decide) (by decide)) (Nat.le_of_ble_eq_true rfl) (Nat.le_of_ble_eq_true rfl) (fun E w9 hq => hq.elim) ?_
    rintro v9 w9 ⟨rfl, M', A2, rfl, hBM, hk', hA'⟩
    refine x_al rfl rfl ?_
    refine x_al rfl rfl ?_
    refine x_get rfl (rw_md hn) (by exact rfl) ?_
    refine x_al rfl rfl ?_
    refine x_get rfl (rw_md hn) (by exact rfl) ?_
    refine x_al rfl rfl ?_
    refine x_get rfl (rw_md hn) (by exact rfl) ?_
    refine x_il rfl rfl ?_
    rw [hBM.1, hBM.2.1]
    refine x_call1 (m_printAt) rfl (Nat.le_of_ble_eq_true rfl) (Or.inl (by first | exact hn | assumption)) trivial (Nat.le_of_ble_eq_true rfl) (Nat.le_of_ble_eq_true rfl) (fun E w9 hq => hq.elim) ?_
    rintro v9 w9 ⟨rfl, rfl⟩
    refine x_c rfl ?_
    refine x_addN (y := 64) rfl ?_
    refine x_iaN rfl (by first | exact rw_md hn | exact rw_w hn | exact rw_A hn (by exact rfl) | exact rw_B2 hn | exact rw_B3 hn | assumption) (by omega) ?_
    refine x_al rfl rfl ?_
    refine x_il rfl rfl ?_
    refine x_call2 (n_classOfPrint hq hn) rfl (Nat.le_of_ble_eq_true rfl) (Or.inl (by first | exact hn | assumption)) (rcv_at (by first | exact rw_md hn | exact rw_w hn | exact rw_A hn (by exact rfl) | exact rw_B2 hn | exact rw_B3 hn | assumption) (by decide) (by decide)) (Nat.le_of_ble_eq_true rfl) (Nat.le_of_ble_eq_true rfl) (fun E w9 hq => hq.elim) ?_
    rintro v9 w9 ⟨rfl, rfl⟩
    refine x_c rfl ?_
    refine x_call6 (n_looks hn) rfl (Nat.le_of_ble_eq_true rfl) (Or.inl (by first | exact hn | assumption)) (rcv_at (by first | exact rw_md hn | exact rw_w hn | exact rw_A hn (by exact rfl) | exact rw_B2 hn | exact rw_B3 hn | assumption) (by decide) (by decide)) (Nat.le_of_ble_eq_true rfl) (Nat.le_of_ble_eq_true rfl) (fun E w9 hq => hq.elim) ?_
    rintro v9 w9 ⟨rfl, A3, rfl, hF3, hA3⟩
    refine x_il rfl rfl ?_
    refine x_al rfl rfl ?_
    refine x_il rfl rfl ?_
    refine x_call2 (n_judges (tg := fun _ => false) (fc := fcP f p q) hT hF3 hn) rfl (Nat.le_of_ble_eq_true rfl) (Or.inl (by first | exact hn | assumption)) (rcv_at (by first | exact rw_md hn | exact rw_w hn | exact rw_A hn (by exact rfl) | exact rw_B2 hn | exact rw_B3 hn | assumption) (by decide) (by decide)) (Nat.le_of_ble_eq_true rfl) (Nat.le_of_ble_eq_true rfl) (fun E w9 hq => hq.elim) ?_
    rintro v9 w9 ⟨rfl, mt, rfl⟩
    refine x_c rfl ?_
    have hA4 : keepB A (udA A3 1436 mt) := keepB_t hA (keepB_t (keepA_B hA') (keepB_t (fun q hq => hA3 q (by omega) (by omega)) (keepB_u (by decide))))
    refine x_icne rfl (fun c4 => ?_) (fun c4 => ?_)
    · refine x_c rfl ?_
      refine x_addN (y := 0) rfl ?_
      refine x_is (lo' := [_, _, _, _, _, _, _, _, _, _]) rfl (Nat.le_of_ble_eq_true rfl) rfl ?_
      exact next _ (by rw [if_neg (by rw [← hQ, decide_eq_true_iff]; exact fun h => c4 (hal.mp h).2)]) _ _ _ _ (keepS_t hk hk') hA4
    refine x_c rfl ?_
    refine x_go rfl ?_
    refine x_addN (y := 1) rfl ?_
    refine x_is (lo' := [_, _, _, _, _, _, _, _, _, _]) rfl (Nat.le_of_ble_eq_true rfl) rfl ?_
    exact next _ (by rw [if_pos (by rw [← hQ, decide_eq_true_iff]; exact hal.mpr ⟨c3, c4⟩)]) _ _ _ _ (keepS_t hk hk') hA4
  exact loop 0 (by decide) _ _ _ _ keepS_r keepB_r
end PROVED
