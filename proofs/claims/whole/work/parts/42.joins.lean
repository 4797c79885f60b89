/-! joins -/
abbrev thereP (f : Nat → Int32) (c : Nat) (day : Int32) : Prop := f (6607 + 26 * c + 1) ≤ day ∧ (f (6607 + 26 * c + 2) < 0 ∨ day < f (6607 + 26 * c + 2))
def lst0 (f : Nat → Int32) (day : Int32) : (Nat → Int32) → Nat → Nat → Int32 := acc (fun c h => upd h c (if thereP f c day then nI c else -1))
def minI (x y : Int32) : Int32 := if x ≤ y then x else y
def maxI (x y : Int32) : Int32 := if y ≤ x then x else y
def mrg (lo hi : Int32) : (Nat → Int32) → Nat → Nat → Int32 := acc (fun c g => upd g c (if g c = hi then lo else g c))
def jS (f : Nat → Int32) (n nc : Nat) (day need : Int32) (a b : Nat) (h : Nat → Int32) : Nat → Int32 := if h a < 0 ∨ h b < 0 ∨ h a = h b ∨ nI (alkN f n (min a b) (max a b) day 10) < need then h else mrg (minI (h a) (h b)) (maxI (h a) (h b)) h nc
def jB (f : Nat → Int32) (n nc : Nat) (day need : Int32) (a : Nat) : (Nat → Int32) → Nat → Nat → Int32 := acc (fun k h => jS f n nc day need a (a + 1 + k) h)
def jA (f : Nat → Int32) (n nc : Nat) (day need : Int32) : (Nat → Int32) → Nat → Nat → Int32 := acc (fun a h => jB f n nc day need a h (nc - (a + 1)))
/-- the least card of each card's person -/
def leastF (f : Nat → Int32) (n nc : Nat) (day : Int32) (old : Nat → Int32) : Nat → Int32 := jA f n nc day (lastF f (bestT f day n) 3 3) (lst0 f day old nc) nc
section JOINS
variable {g : aG} {d : Nat} {w : aW} {m f : Nat → Int32} {A : Nat → Nat → Int32} {B : Nat → Nat → Int64}
def joQ (w : aW) (m f : Nat → Int32) (A : Nat → Nat → Int32) (B : Nat → Nat → Int64) (h : Nat → Int32) : Option Value → aW → Prop := fun v w' => v = none ∧ ∃ m' A', w' = rW w m' f A' B ∧ keepS m m' ∧ (∀ q, q < 1430 → A' q = A q) ∧ A' 1437 = h
theorem n_joins {n nc : Nat} {day : Int32} (hT : WT f n) (hW : WP f) (hF1 : WF1 f nc) (hn : w.1 = N0) : Ev g (d + 14) 279 [.ref 1424, .int day] (rW w m f A B) (joQ w m f A B (leastF f n nc day (A 1437))) noX := by
  have hnc := hF1.2.1
  have hc6 := hF1.1
  refine ev_X11_joins ?_ (Nat.le_of_ble_eq_true rfl)
  refine x_lo (lo' := [some (.ref 1424), some (.int day), none, none, none, none, none, none, none]) rfl ?_
  refine x_al rfl rfl ?_
  refine x_get rfl (rw_md hn) (by exact rfl) ?_
  refine x_c rfl ?_
  refine x_iaN (j := 6606) rfl (by first | exact rw_md hn | exact rw_w hn | exact rw_A hn (by exact rfl) | exact rw_B2 hn | exact rw_B3 hn | assumption) (by omega) ?_
  rw [hc6]
  refine x_is (lo' := [_, _, _, _, _, _, _, _, _]) rfl (Nat.le_of_ble_eq_true rfl) rfl ?_
  refine x_al rfl rfl ?_
  refine x_il rfl rfl ?_
  refine x_c rfl ?_
  refine x_c rfl ?_
  refine x_call4 (n_lastNumber hT hn) rfl (Nat.le_of_ble_eq_true rfl) (Or.inl (by first | exact hn | assumption)) (rcv_at (by first | exact rw_md hn | exact rw_w hn | exact rw_A hn (by exact rfl) | exact rw_B2 hn | exact rw_B3 hn | assumption) (by decide) (by decide)) (Nat.le_of_ble_eq_true rfl) (Nat.le_of_ble_eq_true rfl) (fun E w9 hq => hq.elim) ?_
  rintro v9 w9 ⟨rfl, rfl⟩
  refine x_is (lo' := [_, _, _, _, _, _, _, _, _]) rfl (Nat.le_of_ble_eq_true rfl) rfl ?_
  refine x_c rfl ?_
  refine x_is (lo' := [_, _, _, _, _, _, _, _, _]) rfl (Nat.le_of_ble_eq_true rfl) rfl ?_
  unfold leastF
  generalize hneed : lastF f (bestT f day n) 3 3 = need
  generalize hP : jA f n nc day need (lst0 f day (A 1437) nc) nc = P
  have loopA : ∀ a, a ≤ nc → ∀ m' A' l5 l6 l7 l8, keepS m m' → (∀ q, q < 1430 → A' q = A q) → A' 1437 = jA f n nc day need (lst0 f day (A 1437) nc) a → EX g mbOf (Ev g (d + 13)) (infoOf 279) k_X11_joins (joQ w m f A B P) noX w.1 (rW w m' f A' B) 0 0 32 [some (.ref 1424), some (.int day), some (.int (nI nc)), some (.int need), some (.int (nI a)), l5, l6, l7, l8] [] := by
    refine downN nc fun a ha iha => ?_
    intro m' A' l5 l6 l7 l8 hk hA hL
    refine x_il rfl rfl ?_
    refine x_il rfl rfl ?_
    refine x_icgeN rfl (by omega) (fun c0 => ?_) (fun c0 => ?_)
    · refine x_retv rfl (Nat.le_of_ble_eq_true rfl) (Nat.le_of_ble_eq_true rfl) rfl ?_
      obtain rfl : a = nc := by omega
      exact ⟨rfl, m', A', rfl, hk, hA, by rw [hL, hP]⟩
    refine x_il rfl rfl ?_
    refine x_c rfl ?_
    refine x_addN (y := 1) rfl ?_
    refine x_is (lo' := [_, _, _, _, _, _, _, _, _]) rfl (Nat.le_of_ble_eq_true rfl) rfl ?_
    have iha := iha c0
    rw [show jA f n nc day need (lst0 f day (A 1437) nc) (a + 1) = jB f n nc day need a (jA f n nc day need (lst0 f day (A 1437) nc) a) (nc - (a + 1)) from rfl] at iha
    rw [← hL] at iha
    generalize hh0 : A' 1437 = h0 at *
    have loopB : ∀ k, k ≤ nc - (a + 1) → ∀ m' A' l6 l7 l8, keepS m m' → (∀ q, q < 1430 → A' q = A q) → A' 1437 = jB f n nc day need a h0 k → EX g mbOf (Ev g (d + 13)) (infoOf 279) k_X11_joins (joQ w m f A B P) noX w.1 (rW w m' f A' B) 0 0 39 [some (.ref 1424), some (.int day), some (.int (nI nc)), some (.int need), some (.int (nI a)), some (.int (nI (a + 1 + k))), l6, l7, l8] [] := by
      refine downN (nc - (a + 1)) fun k hkk ihk => ?_
      intro m' A' l6 l7 l8 hk hA hL
      refine x_il rfl rfl ?_
      refine x_il rfl rfl ?_
      refine x_icgeN rfl (by omega) (fun c1 => ?_) (fun c1 => ?_)
      · refine x_inc1 (lo' := [_, _, _, _, _, _, _, _, _]) rfl rfl rfl ?_
        refine x_go rfl ?_
        obtain rfl : k = nc - (a + 1) := by omega
        exact iha _ _ _ _ _ _ hk hA hL
      refine x_al rfl rfl ?_
      refine x_get rfl (rw_md hn) (by exact rfl) ?_
      refine x_il rfl rfl ?_
      refine x_iaN rfl (by first | exact rw_md hn | exact rw_w hn | exact rw_A hn (by exact rfl) | exact rw_B2 hn | exact rw_B3 hn | assumption) (by omega) ?_
      have ihk := ihk (by omega)
      rw [show jB f n nc day need a h0 (k + 1) = jS f n nc day need a (a + 1 + k) (jB f n nc day need a h0 k) from rfl, ← hL] at ihk
      generalize hb : a + 1 + k = b at *
      rw [show a + 1 + (k + 1) = b + 1 by omega] at ihk
      have skip : ∀ m' A2 l6 l7 l8, keepS m m' → (∀ q, q < 1430 → A2 q = A q) → A2 1437 = jS f n nc day need a b (A' 1437) → EX g mbOf (Ev g (d + 13)) (infoOf 279) k_X11_joins (joQ w m f A B P) noX w.1 (rW w m' f A2 B) 0 0 112 [some (.ref 1424), some (.int day), some (.int (nI nc)), some (.int need), some (.int (nI a)), some (.int (nI b)), l6, l7, l8] [] := by
        intro m' A2 l6 l7 l8 h1 h2 h3
        refine x_inc1 (lo' := [_, _, _, _, _, _, _, _, _]) rfl rfl rfl ?_
        refine x_go rfl ?_
        exact ihk _ _ _ _ _ h1 h2 h3
      refine x_iflt rfl (fun c2 => ?_) (fun c2 => ?_)
      · skip
        exact skip _ _ _ _ _ hk hA (if_pos (Or.inl c2)).symm
      refine x_al rfl rfl ?_
      refine x_get rfl (rw_md hn) (by exact rfl) ?_
      refine x_il rfl rfl ?_
      refine x_iaN rfl (by first | exact rw_md hn | exact rw_w hn | exact rw_A hn (by exact rfl) | exact rw_B2 hn | exact rw_B3 hn | assumption) (by omega) ?_
      refine x_iflt rfl (fun c3 => ?_) (fun c3 => ?_)
      · skip
        exact skip _ _ _ _ _ hk hA (if_pos (Or.inr (Or.inl c3))).symm
      refine x_al rfl rfl ?_
      refine x_get rfl (rw_md hn) (by exact rfl) ?_
      refine x_il rfl rfl ?_
      refine x_iaN rfl (by first | exact rw_md hn | exact rw_w hn | exact rw_A hn (by exact rfl) | exact rw_B2 hn | exact rw_B3 hn | assumption) (by omega) ?_
      refine x_al rfl rfl ?_
      refine x_get rfl (rw_md hn) (by exact rfl) ?_
      refine x_il rfl rfl ?_
      refine x_iaN rfl (by first | exact rw_md hn | exact rw_w hn | exact rw_A hn (by exact rfl) | exact rw_B2 hn | exact rw_B3 hn | assumption) (by omega) ?_
      refine x_iceq rfl (fun c4 => ?_) (fun c4 => ?_)
      · skip
        exact skip _ _ _ _ _ hk hA (if_pos (Or.inr (Or.inr (Or.inl c4)))).symm
      refine x_al rfl rfl ?_
      refine x_il rfl rfl ?_
      refine x_il rfl rfl ?_
      refine x_il rfl rfl ?_
      refine x_call4 (n_alikeOf hT hW hF1 (by omega) (by omega) hn) rfl (Nat.le_of_ble_eq_true rfl) (Or.inl (by first | exact hn | assumption)) (rcv_at (by first | exact rw_md hn | exact rw_w hn | exact rw_A hn (by exact rfl) | exact rw_B2 hn | exact rw_B3 hn | assumption) (by decide) (by decide)) (Nat.le_of_ble_eq_true rfl) (Nat.le_of_ble_eq_true rfl) (fun E w9 hq => hq.elim) ?_
      rintro v9 w9 ⟨M', A2, rfl, hk', hA', rfl⟩
      refine x_il rfl rfl ?_
      have hA2 : ∀ q, q < 1430 → A2 q = A q := fun q hq => (hA' q (Or.inl hq)).trans (hA q hq)
      have hL2 : A2 1437 = A' 1437 := hA' 1437 (Or.inr rfl)
      refine x_icge rfl (fun c5 => ?_) (fun c5 => ?_)
      rotate_left
      · refine x_go rfl ?_
        exact skip _ _ _ _ _ (keepS_t hk hk') hA2 (by rw [hL2]; exact (if_pos (Or.inr (Or.inr (Or.inr (Int32.not_le.mp c5))))).symm)
      refine x_al rfl rfl ?_
      refine x_get rfl (rw_md hn) (by exact rfl) ?_
      refine x_il rfl rfl ?_
      refine x_iaN rfl (by first | exact rw_md hn | exact rw_w hn | exact rw_A hn (by exact rfl) | exact rw_B2 hn | exact rw_B3 hn | assumption) (by omega) ?_
      refine x_al rfl rfl ?_
      refine x_get rfl (rw_md hn) (by exact rfl) ?_
      refine x_il rfl rfl ?_
      refine x_iaN rfl (by first | exact rw_md hn | exact rw_w hn | exact rw_A hn (by exact rfl) | exact rw_B2 hn | exact rw_B3 hn | assumption) (by omega) ?_
      have hS : jS f n nc day need a b (A' 1437) = mrg (minI (A' 1437 a) (A' 1437 b)) (maxI (A' 1437 a) (A' 1437 b)) (A' 1437) nc := if_neg (fun h => h.elim c2 (fun h => h.elim c3 (fun h => h.elim c4 (fun h => absurd c5 (Int32.not_le.mpr h)))))
      rw [hS] at skip
      rw [hL2]
      refine x_call2 (m_min) rfl (Nat.le_of_ble_eq_true rfl) (Or.inl (by first | exact hn | assumption)) trivial (Nat.le_of_ble_eq_true rfl) (Nat.le_of_ble_eq_true rfl) (fun E w9 hq => hq.elim) ?_
      rintro v9 w9 ⟨rfl, rfl⟩
      refine x_is (lo' := [_, _, _, _, _, _, _, _, _]) rfl (Nat.le_of_ble_eq_true rfl) rfl ?_
      refine x_al rfl rfl ?_
      refine x_get rfl (rw_md hn) (by exact rfl) ?_
      refine x_il rfl rfl ?_
      refine x_iaN rfl (by first | exact rw_md hn | exact rw_w hn | exact rw_A hn (by exact rfl) | exact rw_B2 hn | exact rw_B3 hn | assumption) (by omega) ?_
      refine x_al rfl rfl ?_
      refine x_get rfl (rw_md hn) (by exact rfl) ?_
      refine x_il rfl rfl ?_
      refine x_iaN rfl (by first | exact rw_md hn | exact rw_w hn | exact rw_A hn (by exact rfl) | exact rw_B2 hn | exact rw_B3 hn | assumption) (by omega) ?_
      rw [hL2, show (if A' 1437 a ≤ A' 1437 b then A' 1437 a else A' 1437 b) = minI (A' 1437 a) (A' 1437 b) from rfl]
      refine x_call2 (m_max) rfl (Nat.le_of_ble_eq_true rfl) (Or.inl (by first | exact hn | assumption)) trivial (Nat.le_of_ble_eq_true rfl) (Nat.le_of_ble_eq_true rfl) (fun E w9 hq => hq.elim) ?_
      rintro v9 w9 ⟨rfl, rfl⟩
      refine x_is (lo' := [_, _, _, _, _, _, _, _, _]) rfl (Nat.le_of_ble_eq_true rfl) rfl ?_
      refine x_c rfl ?_
      refine x_is (lo' := [_, _, _, _, _, _, _, _, _]) rfl (Nat.le_of_ble_eq_true rfl) rfl ?_
      rw [show (if A' 1437 b ≤ A' 1437 a then A' 1437 a else A' 1437 b) = maxI (A' 1437 a) (A' 1437 b) from rfl]
      generalize minI (A' 1437 a) (A' 1437 b) = lo at *
      generalize maxI (A' 1437 a) (A' 1437 b) = hi at *
      have loopC : ∀ c, c ≤ nc → EX g mbOf (Ev g (d + 13)) (infoOf 279) k_X11_joins (joQ w m f A B P) noX w.1 (rW w M' f (udA A2 1437 (mrg lo hi (A' 1437) c)) B) 0 0 91 [some (.ref 1424), some (.int day), some (.int (nI nc)), some (.int need), some (.int (nI a)), some (.int (nI b)), some (.int lo), some (.int hi), some (.int (nI c))] [] := by
        refine downN nc fun c hc ihc => ?_
        refine x_il rfl rfl ?_
        refine x_il rfl rfl ?_
        refine x_icgeN rfl (by omega) (fun c6 => ?_) (fun c6 => ?_)
        · skip
          obtain rfl : c = nc := by omega
          exact skip _ _ _ _ _ (keepS_t hk hk') (fun q hq => by unfold udA; rw [if_neg (by omega)]; exact hA2 q hq) rfl
        refine x_al rfl rfl ?_
        refine x_get rfl (rw_md hn) (by exact rfl) ?_
        refine x_il rfl rfl ?_
        refine x_al rfl rfl ?_
        refine x_get rfl (rw_md hn) (by exact rfl) ?_
        refine x_il rfl rfl ?_
        refine x_iaN rfl (by first | exact rw_md hn | exact rw_w hn | exact rw_A hn (by exact rfl) | exact rw_B2 hn | exact rw_B3 hn | assumption) (by omega) ?_
        refine x_il rfl rfl ?_
        have ihc := ihc c6
        rw [show mrg lo hi (A' 1437) (c + 1) = upd (mrg lo hi (A' 1437) c) c (if mrg lo hi (A' 1437) c c = hi then lo else mrg lo hi (A' 1437) c c) from rfl] at ihc
        generalize mrg lo hi (A' 1437) c = gg at *
        rw [show udA A2 1437 gg 1437 c = gg c from rfl]
        refine x_icne rfl (fun c7 => ?_) (fun c7 => ?_)
        · refine x_al rfl rfl ?_
          refine x_get rfl (rw_md hn) (by exact rfl) ?_
          refine x_il rfl rfl ?_
          refine x_iaN rfl (by first | exact rw_md hn | exact rw_w hn | exact rw_A hn (by exact rfl) | exact rw_B2 hn | exact rw_B3 hn | assumption) (by omega) ?_
          rw [if_neg c7] at ihc
          rw [show udA A2 1437 gg 1437 c = gg c from rfl]
          first | refine x_iasW rfl hn (by omega) ?_ | refine x_iasA rfl hn (by exact rfl) (by omega) ?_
          refine x_inc1 (lo' := [_, _, _, _, _, _, _, _, _]) rfl rfl rfl ?_
          refine x_go rfl ?_
          rw [udA_udA]
          exact ihc
        refine x_il rfl rfl ?_
        refine x_go rfl ?_
        first | refine x_iasW rfl hn (by omega) ?_ | refine x_iasA rfl hn (by exact rfl) (by omega) ?_
        refine x_inc1 (lo' := [_, _, _, _, _, _, _, _, _]) rfl rfl rfl ?_
        refine x_go rfl ?_
        rw [udA_udA]
        rw [if_pos c7] at ihc
        exact ihc
      have := loopC 0 (Nat.zero_le _)
      rw [show mrg lo hi (A' 1437) 0 = A2 1437 from hL2.symm, udA_self] at this
      exact this
    exact loopB 0 (Nat.zero_le _) _ _ _ _ _ hk hA hh0
  have loop0 : ∀ c, c ≤ nc → EX g mbOf (Ev g (d + 13)) (infoOf 279) k_X11_joins (joQ w m f A B P) noX w.1 (rW w m f (udA A 1437 (lst0 f day (A 1437) c)) B) 0 0 13 [some (.ref 1424), some (.int day), some (.int (nI nc)), some (.int need), some (.int (nI c)), none, none, none, none] [] := by
    refine downN nc fun c hc ih => ?_
    refine x_il rfl rfl ?_
    refine x_il rfl rfl ?_
    refine x_icgeN rfl (by omega) (fun c0 => ?_) (fun c0 => ?_)
    · refine x_c rfl ?_
      refine x_is (lo' := [_, _, _, _, _, _, _, _, _]) rfl (Nat.le_of_ble_eq_true rfl) rfl ?_
      obtain rfl : c = nc := by omega
      exact loopA 0 (Nat.zero_le _) _ _ _ _ _ _ keepS_r (fun q hq => by unfold udA; rw [if_neg (by omega)]) rfl
    refine x_al rfl rfl ?_
    refine x_get rfl (rw_md hn) (by exact rfl) ?_
    refine x_il rfl rfl ?_
    refine x_al rfl rfl ?_
    refine x_il rfl rfl ?_
    refine x_il rfl rfl ?_
    have ih := ih c0
    rw [show lst0 f day (A 1437) (c + 1) = upd (lst0 f day (A 1437) c) c (if thereP f c day then nI c else -1) from rfl] at ih
    refine x_call3 (n_isThere (by omega) hn) rfl (Nat.le_of_ble_eq_true rfl) (Or.inl (by first | exact hn | assumption)) (rcv_at (by first | exact rw_md hn | exact rw_w hn | exact rw_A hn (by exact rfl) | exact rw_B2 hn | exact rw_B3 hn | assumption) (by decide) (by decide)) (Nat.le_of_ble_eq_true rfl) (Nat.le_of_ble_eq_true rfl) (fun E w9 hq => hq.elim) ?_
    rintro v9 w9 ⟨rfl, rfl⟩
    refine x_ifeqB rfl (fun c1 => ?_) (fun c1 => ?_)
    · refine x_c rfl ?_
      rw [if_neg c1] at ih
      first | refine x_iasW rfl hn (by omega) ?_ | refine x_iasA rfl hn (by exact rfl) (by omega) ?_
      refine x_inc1 (lo' := [_, _, _, _, _, _, _, _, _]) rfl rfl rfl ?_
      refine x_go rfl ?_
      rw [udA_udA]
      exact ih
    refine x_il rfl rfl ?_
    refine x_go rfl ?_
    rw [if_pos c1] at ih
    first | refine x_iasW rfl hn (by omega) ?_ | refine x_iasA rfl hn (by exact rfl) (by omega) ?_
    refine x_inc1 (lo' := [_, _, _, _, _, _, _, _, _]) rfl rfl rfl ?_
    refine x_go rfl ?_
    rw [udA_udA]
    exact ih
  have := loop0 0 (Nat.zero_le _)
  rw [show lst0 f day (A 1437) 0 = A 1437 from rfl, udA_self] at this
  exact this
end JOINS
