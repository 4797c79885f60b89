/-! rare; mset_ -/
def remL (x y : Int64) : Int64 := x - x / y * y
/-- the common divisor, if it is found in k steps -/
def comI : Nat → Int64 → Int64 → Option Int64
  | 0, x, y => if 0 < y then none else some x
  | k + 1, x, y => if 0 < y then comI k y (remL x y) else some x
abbrev inP (f : Nat → Int32) (j c : Nat) : Prop := f (6607 + 26 * c + 2) < 0 ∧ 0 ≤ f (6607 + 26 * c + (6 + j))
def hvN (f : Nat → Int32) (j : Nat) (cl : Int32) : Nat → Nat := cn (fun c => decide (inP f j c ∧ clC f c j 0 = cl))
def alN (f : Nat → Int32) (j : Nat) : Nat → Nat := cn (fun c => decide (inP f j c))
def rarS (f : Nat → Int32) (nc card : Nat) (j : Nat) (s : Int64 × Int64) : Option (Int64 × Int64) := if f (6607 + 26 * card + (6 + j)) < 0 then some s else match comI 200 (s.1 * Int64.ofNat (1 + hvN f j (clC f card j 0) nc)) (s.2 * Int64.ofNat (2 + alN f j nc)) with
  | none => none
  | some e => if e = 0 then none else some (s.1 * Int64.ofNat (1 + hvN f j (clC f card j 0) nc) / e, s.2 * Int64.ofNat (2 + alN f j nc) / e)
def rarF (f : Nat → Int32) (nc card : Nat) : Nat → Option (Int64 × Int64)
  | 0 => some (1, 1)
  | j + 1 => match rarF f nc card j with
    | none => none
    | some s => rarS f nc card j s
theorem lo_1 (n : Nat) : Int64.ofNat n + 1 = Int64.ofNat (n + 1) := (Int64.ofNat_add n 1).symm
section CALLS
variable {g : aG} {d : Nat} {w : aW} {m f : Nat → Int32} {A : Nat → Nat → Int32} {B : Nat → Nat → Int64}
theorem lcmp_le {x : Int64} : lg_cmp x 0 ≤ 0 ↔ ¬ 0 < x := by
  unfold lg_cmp
  constructor
  · intro h
    split at h
    · exact absurd h (by decide)
    · rename_i h1
      exact h1
  · intro h
    rw [if_neg (by exact h)]
    split <;> decide
theorem n_common {r : Int64} {k : Nat} {x0 y0 : Int64} (h0 : comI k x0 y0 = some r) : Ev g (d + 1) 292 [.long x0, .long y0] w (fun v w' => v = some (.long r) ∧ w' = w) noX := by
  have loop : ∀ k x y z, comI k x y = some r → EX g mbOf (Ev g (d)) (infoOf 292) k_X11_common (fun v w' => v = some (.long r) ∧ w' = w) noX w.1 (w) 0 0 4 [some (.long x0), none, some (.long y0), none, some (.long x), none, some (.long y), none, z, none] [] := by
    intro k
    induction k with
    | zero =>
      intro x y z h
      unfold comI at h
      refine x_ll rfl rfl ?_
      refine x_c rfl ?_
      refine x_lcmp rfl ?_
      by_cases c1 : 0 < y
      · rw [if_pos c1] at h; cases h
      · rw [if_neg c1] at h
        cases h
        refine x_ifle rfl (fun c => ?_) (fun c => absurd (lcmp_le.mpr c1) c)
        refine x_ll rfl rfl ?_
        refine x_retl rfl (Nat.le_of_ble_eq_true rfl) (Nat.le_of_ble_eq_true rfl) rfl ?_
        exact ⟨rfl, rfl⟩
    | succ k ih =>
      intro x y z h
      unfold comI at h
      refine x_ll rfl rfl ?_
      refine x_c rfl ?_
      refine x_lcmp rfl ?_
      by_cases c1 : 0 < y
      · rw [if_pos c1] at h
        refine x_ifle rfl (fun c => absurd c1 (lcmp_le.mp c)) (fun c => ?_)
        refine x_ll rfl rfl ?_
        refine x_ll rfl rfl ?_
        have hy : ¬ y = 0 := fun e => by rw [e] at c1; exact absurd c1 (by decide)
        refine x_lrem rfl hy ?_
        refine x_ls (lo' := [_, _, _, _, _, _, _, _, _, _]) rfl (Nat.le_of_ble_eq_true rfl) rfl ?_
        refine x_ll rfl rfl ?_
        refine x_ls (lo' := [_, _, _, _, _, _, _, _, _, _]) rfl (Nat.le_of_ble_eq_true rfl) rfl ?_
        refine x_ll rfl rfl ?_
        refine x_ls (lo' := [_, _, _, _, _, _, _, _, _, _]) rfl (Nat.le_of_ble_eq_true rfl) rfl ?_
        refine x_go rfl ?_
        exact ih _ _ _ h
      · rw [if_neg c1] at h
        cases h
        refine x_ifle rfl (fun c => ?_) (fun c => absurd (lcmp_le.mpr c1) c)
        refine x_ll rfl rfl ?_
        refine x_retl rfl (Nat.le_of_ble_eq_true rfl) (Nat.le_of_ble_eq_true rfl) rfl ?_
        exact ⟨rfl, rfl⟩
  refine ev_X11_common ?_ (Nat.le_of_ble_eq_true rfl)
  refine x_lo (lo' := [some (.long x0), none, some (.long y0), none, none, none, none, none, none, none]) rfl ?_
  refine x_ll rfl rfl ?_
  refine x_ls (lo' := [_, _, _, _, _, _, _, _, _, _]) rfl (Nat.le_of_ble_eq_true rfl) rfl ?_
  refine x_ll rfl rfl ?_
  refine x_ls (lo' := [_, _, _, _, _, _, _, _, _, _]) rfl (Nat.le_of_ble_eq_true rfl) rfl ?_
  exact loop k x0 y0 none h0
theorem rar_s {f : Nat → Int32} {nc p n j : Nat} {s : Int64 × Int64} (h : rarF f nc p n = some s) (hj : j ≤ n) : ∃ s, rarF f nc p j = some s := by
  induction n generalizing s with
  | zero => obtain rfl : j = 0 := by omega
            exact ⟨_, h⟩
  | succ n ih =>
    by_cases e : j = n + 1
    · exact ⟨s, e ▸ h⟩
    · unfold rarF at h
      split at h
      · cases h
      · rename_i s' h'
        exact ih h' (by omega)
theorem r_rare {x : Int32} {below : Bool} {nc : Nat} {a u : Int64} (hF1 : WF1 f nc) (hR : okN x nc = true → rarF f nc (cN x) 10 = some (a, u)) (hn : w.1 = N0) : Ev g (d + 11) 293 [.ref 1424, .int x, .int (bI below)] (rW w m f A B) (OpQ w m f A (some (.long (if okN x nc = true then (if below = true then u else a) else 0))) (if okN x nc = true then 0 else 1)) noX := by
  have hnc := hF1.2.1
  refine ev_X11_rare ?_ (Nat.le_of_ble_eq_true rfl)
  refine x_lo (lo' := [some (.ref 1424), some (.int x), some (.int (bI below)), none, none, none, none, none, none, none, none, none, none, none, none]) rfl ?_
  refine x_al rfl rfl ?_
  refine x_c rfl ?_
  refine x_putM rfl hn rfl rfl rfl (mset_0 _ _) ?_
  refine x_al rfl rfl ?_
  refine x_al rfl rfl ?_
  refine x_il rfl rfl ?_
  refine x_call2 (n_noCard hF1.1 (by omega) hn) rfl (Nat.le_of_ble_eq_true rfl) (Or.inl (by first | exact hn | assumption)) (rcv_at (by first | exact rw_md hn | exact rw_w hn | exact rw_A hn (by exact rfl) | exact rw_B2 hn | exact rw_B3 hn | assumption) (by decide) (by decide)) (Nat.le_of_ble_eq_true rfl) (Nat.le_of_ble_eq_true rfl) (fun E w9 hq => hq.elim) ?_
  rintro v9 w9 ⟨rfl, rfl⟩
  refine x_c rfl ?_
  refine x_call3 (n_throwsIf hn) rfl (Nat.le_of_ble_eq_true rfl) (Or.inl (by first | exact hn | assumption)) (rcv_at (by first | exact rw_md hn | exact rw_w hn | exact rw_A hn (by exact rfl) | exact rw_B2 hn | exact rw_B3 hn | assumption) (by decide) (by decide)) (Nat.le_of_ble_eq_true rfl) (Nat.le_of_ble_eq_true rfl) (fun E w9 hq => hq.elim) ?_
  rintro v9 w9 ⟨rfl, rfl⟩
  cases hb : okN x nc with
  | false =>
    refine x_ifeq rfl (fun c => absurd c (show ¬ (1 : Int32) = 0 by decide)) (fun c => ?_)
    refine x_c rfl ?_
    refine x_retl rfl (Nat.le_of_ble_eq_true rfl) (Nat.le_of_ble_eq_true rfl) rfl ?_
    exact opq_t
  | true =>
    obtain ⟨p, hp, rfl, hcn⟩ := ok_of hb (by omega)
    have hR := hR hb
    refine x_ifeq rfl (fun c => ?_) (fun c => absurd rfl c)
    refine x_c rfl ?_
    refine x_ls (lo' := [_, _, _, _, _, _, _, _, _, _, _, _, _, _, _]) rfl (Nat.le_of_ble_eq_true rfl) rfl ?_
    refine x_c rfl ?_
    refine x_ls (lo' := [_, _, _, _, _, _, _, _, _, _, _, _, _, _, _]) rfl (Nat.le_of_ble_eq_true rfl) rfl ?_
    refine x_c rfl ?_
    refine x_is (lo' := [_, _, _, _, _, _, _, _, _, _, _, _, _, _, _]) rfl (Nat.le_of_ble_eq_true rfl) rfl ?_
    rw [hcn] at hR
    rw [if_pos rfl, if_pos rfl]
    have loop : ∀ j, j ≤ 10 → ∀ a1 u1 l8 l9 l10 l11 l12 l13 l14, rarF f nc p j = some (a1, u1) → EX g mbOf (Ev g (d + 10)) (infoOf 293) k_X11_rare (OpQ w m f A (some (.long (if below = true then u else a))) 0) noX w.1 (rW w (upd m 0 0) f A B) 0 0 18 [some (.ref 1424), some (.int (nI p)), some (.int (bI below)), some (.long a1), none, some (.long u1), none, some (.int (nI j)), l8, l9, l10, l11, l12, l13, l14] [] := by
      refine downN 10 fun j hj ih => ?_
      intro a1 u1 l8 l9 l10 l11 l12 l13 l14 h1
      refine x_il rfl rfl ?_
      refine x_c rfl ?_
      refine x_icgeN (y := 10) rfl (by omega) (fun c0 => ?_) (fun c0 => ?_)
      · refine x_il rfl rfl ?_
        obtain rfl : j = 10 := by omega
        rw [hR] at h1
        cases h1
        cases below with
        | true =>
          refine x_ifeq rfl (fun c => absurd c (show ¬ (1 : Int32) = 0 by decide)) (fun c => ?_)
          refine x_ll rfl rfl ?_
          refine x_go rfl ?_
          refine x_retl rfl (Nat.le_of_ble_eq_true rfl) (Nat.le_of_ble_eq_true rfl) rfl ?_
          exact opq_s
        | false =>
          refine x_ifeq rfl (fun c => ?_) (fun c => absurd rfl c)
          refine x_ll rfl rfl ?_
          refine x_retl rfl (Nat.le_of_ble_eq_true rfl) (Nat.le_of_ble_eq_true rfl) rfl ?_
          exact opq_s
      refine x_al rfl rfl ?_
      refine x_il rfl rfl ?_
      refine x_c rfl ?_
      refine x_il rfl rfl ?_
      refine x_addN (x := 6) rfl ?_
      have ih := ih c0
      obtain ⟨⟨a2, u2⟩, h2⟩ := rar_s hR (show j + 1 ≤ 10 by omega)
      have h3 : rarS f nc p j (a1, u1) = some (a2, u2) := by
        have h2' := h2
        unfold rarF at h2'
        rw [h1] at h2'
        exact h2'
      have next : ∀ l8 l9 l10 l11 l12 l13 l14, EX g mbOf (Ev g (d + 10)) (infoOf 293) k_X11_rare (OpQ w m f A (some (.long (if below = true then u else a))) 0) noX w.1 (rW w (upd m 0 0) f A B) 0 0 98 [some (.ref 1424), some (.int (nI p)), some (.int (bI below)), some (.long a2), none, some (.long u2), none, some (.int (nI j)), l8, l9, l10, l11, l12, l13, l14] [] := by
        intro l8 l9 l10 l11 l12 l13 l14
        refine x_inc1 (lo' := [_, _, _, _, _, _, _, _, _, _, _, _, _, _, _]) rfl rfl rfl ?_
        refine x_go rfl ?_
        exact ih a2 u2 _ _ _ _ _ _ _ h2
      unfold rarS at h3
      refine x_call3 (n_of (by omega) hn) rfl (Nat.le_of_ble_eq_true rfl) (Or.inl (by first | exact hn | assumption)) (rcv_at (by first | exact rw_md hn | exact rw_w hn | exact rw_A hn (by exact rfl) | exact rw_B2 hn | exact rw_B3 hn | assumption) (by decide) (by decide)) (Nat.le_of_ble_eq_true rfl) (Nat.le_of_ble_eq_true rfl) (fun E w9 hq => hq.elim) ?_
      rintro v9 w9 ⟨rfl, rfl⟩
      refine x_ifge rfl (fun c1 => ?_) (fun c1 => ?_)
      rotate_left
      · refine x_go rfl ?_
        rw [if_pos (by exact Int32.not_le.mp c1)] at h3
        cases h3
        exact next _ _ _ _ _ _ _
      refine x_al rfl rfl ?_
      refine x_il rfl rfl ?_
      refine x_il rfl rfl ?_
      refine x_c rfl ?_
      rw [if_neg (by exact Int32.not_lt.mpr c1)] at h3
      refine x_call4 (n_classOf hF1 hp (by omega) hn) rfl (Nat.le_of_ble_eq_true rfl) (Or.inl (by first | exact hn | assumption)) (rcv_at (by first | exact rw_md hn | exact rw_w hn | exact rw_A hn (by exact rfl) | exact rw_B2 hn | exact rw_B3 hn | assumption) (by decide) (by decide)) (Nat.le_of_ble_eq_true rfl) (Nat.le_of_ble_eq_true rfl) (fun E w9 hq => hq.elim) ?_
      rintro v9 w9 ⟨rfl, rfl⟩
      refine x_is (lo' := [_, _, _, _, _, _, _, _, _, _, _, _, _, _, _]) rfl (Nat.le_of_ble_eq_true rfl) rfl ?_
      refine x_c rfl ?_
      refine x_ls (lo' := [_, _, _, _, _, _, _, _, _, _, _, _, _, _, _]) rfl (Nat.le_of_ble_eq_true rfl) rfl ?_
      refine x_c rfl ?_
      refine x_ls (lo' := [_, _, _, _, _, _, _, _, _, _, _, _, _, _, _]) rfl (Nat.le_of_ble_eq_true rfl) rfl ?_
      refine x_c rfl ?_
      refine x_is (lo' := [_, _, _, _, _, _, _, _, _, _, _, _, _, _, _]) rfl (Nat.le_of_ble_eq_true rfl) rfl ?_
      generalize clC f p j 0 = cl at *
      generalize he : comI 200 (a1 * Int64.ofNat (1 + hvN f j cl nc)) (u1 * Int64.ofNat (2 + alN f j nc)) = e at h3
      cases e with
      | none => cases h3
      | some e =>
      have h3 : (if e = 0 then none else some (a1 * Int64.ofNat (1 + hvN f j cl nc) / e, u1 * Int64.ofNat (2 + alN f j nc) / e)) = some (a2, u2) := h3
      by_cases he0 : e = 0
      · rw [if_pos he0] at h3; cases h3
      rw [if_neg he0] at h3
      cases h3
      have inner : ∀ c, c ≤ nc → ∀ l14, EX g mbOf (Ev g (d + 10)) (infoOf 293) k_X11_rare (OpQ w m f A (some (.long (if below = true then u else a))) 0) noX w.1 (rW w (upd m 0 0) f A B) 0 0 41 [some (.ref 1424), some (.int (nI p)), some (.int (bI below)), some (.long a1), none, some (.long u1), none, some (.int (nI j)), some (.int cl), some (.long (Int64.ofNat (1 + hvN f j cl c))), none, some (.long (Int64.ofNat (2 + alN f j c))), none, some (.int (nI c)), l14] [] := by
        refine downN nc fun c hc ihc => ?_
        intro l14
        refine x_il rfl rfl ?_
        refine x_al rfl rfl ?_
        refine x_get rfl (rw_md hn) (by exact rfl) ?_
        refine x_c rfl ?_
        refine x_iaN (j := 6606) rfl (by first | exact rw_md hn | exact rw_w hn | exact rw_A hn (by exact rfl) | exact rw_B2 hn | exact rw_B3 hn | assumption) (by omega) ?_
        rw [hF1.1]
        refine x_icgeN rfl (by omega) (fun c2 => ?_) (fun c2 => ?_)
        · refine x_ll rfl rfl ?_
          refine x_ll rfl rfl ?_
          refine x_lmul rfl ?_
          refine x_ls (lo' := [_, _, _, _, _, _, _, _, _, _, _, _, _, _, _]) rfl (Nat.le_of_ble_eq_true rfl) rfl ?_
          refine x_ll rfl rfl ?_
          refine x_ll rfl rfl ?_
          refine x_lmul rfl ?_
          refine x_ls (lo' := [_, _, _, _, _, _, _, _, _, _, _, _, _, _, _]) rfl (Nat.le_of_ble_eq_true rfl) rfl ?_
          refine x_ll rfl rfl ?_
          refine x_ll rfl rfl ?_
          obtain rfl : c = nc := by omega
          refine x_call2 (n_common he) rfl (Nat.le_of_ble_eq_true rfl) (Or.inl (by first | exact hn | assumption)) trivial (Nat.le_of_ble_eq_true rfl) (Nat.le_of_ble_eq_true rfl) (fun E w9 hq => hq.elim) ?_
          rintro v9 w9 ⟨rfl, rfl⟩
          refine x_ls (lo' := [_, _, _, _, _, _, _, _, _, _, _, _, _, _, _]) rfl (Nat.le_of_ble_eq_true rfl) rfl ?_
          refine x_ll rfl rfl ?_
          refine x_ll rfl rfl ?_
          refine x_ldiv rfl he0 ?_
          refine x_ls (lo' := [_, _, _, _, _, _, _, _, _, _, _, _, _, _, _]) rfl (Nat.le_of_ble_eq_true rfl) rfl ?_
          refine x_ll rfl rfl ?_
          refine x_ll rfl rfl ?_
          refine x_ldiv rfl he0 ?_
          refine x_ls (lo' := [_, _, _, _, _, _, _, _, _, _, _, _, _, _, _]) rfl (Nat.le_of_ble_eq_true rfl) rfl ?_
          exact next _ _ _ _ _ _ _
        refine x_al rfl rfl ?_
        refine x_il rfl rfl ?_
        have ihc := ihc c2
        have nextc : ∀ x9 x11 l14, x9 = Int64.ofNat (1 + hvN f j cl (c + 1)) → x11 = Int64.ofNat (2 + alN f j (c + 1)) → EX g mbOf (Ev g (d + 10)) (infoOf 293) k_X11_rare (OpQ w m f A (some (.long (if below = true then u else a))) 0) noX w.1 (rW w (upd m 0 0) f A B) 0 0 76 [some (.ref 1424), some (.int (nI p)), some (.int (bI below)), some (.long a1), none, some (.long u1), none, some (.int (nI j)), some (.int cl), some (.long x9), none, some (.long x11), none, some (.int (nI c)), l14] [] := by
          intro x9 x11 l14 e1 e2
          subst e1
          subst e2
          refine x_inc1 (lo' := [_, _, _, _, _, _, _, _, _, _, _, _, _, _, _]) rfl rfl rfl ?_
          refine x_go rfl ?_
          exact ihc _
        have skip : ¬ inP f j c → ∀ l14, EX g mbOf (Ev g (d + 10)) (infoOf 293) k_X11_rare (OpQ w m f A (some (.long (if below = true then u else a))) 0) noX w.1 (rW w (upd m 0 0) f A B) 0 0 76 [some (.ref 1424), some (.int (nI p)), some (.int (bI below)), some (.long a1), none, some (.long u1), none, some (.int (nI j)), some (.int cl), some (.long (Int64.ofNat (1 + hvN f j cl c))), none, some (.long (Int64.ofNat (2 + alN f j c))), none, some (.int (nI c)), l14] [] := by
          intro h l14
          refine nextc _ _ _ ?_ ?_
          · unfold hvN
            rw [cn_f (by rw [decide_eq_true_eq]; exact fun h' => h h'.1)]
          · unfold alN
            rw [cn_f (by rw [decide_eq_true_eq]; exact h)]
        refine x_call2 (n_isFiled (by omega) hn) rfl (Nat.le_of_ble_eq_true rfl) (Or.inl (by first | exact hn | assumption)) (rcv_at (by first | exact rw_md hn | exact rw_w hn | exact rw_A hn (by exact rfl) | exact rw_B2 hn | exact rw_B3 hn | assumption) (by decide) (by decide)) (Nat.le_of_ble_eq_true rfl) (Nat.le_of_ble_eq_true rfl) (fun E w9 hq => hq.elim) ?_
        rintro v9 w9 ⟨rfl, rfl⟩
        refine x_ifeqB rfl (fun c3 => ?_) (fun c3 => ?_)
        · skip
          exact skip (fun h => c3 h.1) _
        refine x_al rfl rfl ?_
        refine x_il rfl rfl ?_
        refine x_c rfl ?_
        refine x_il rfl rfl ?_
        refine x_addN (x := 6) rfl ?_
        refine x_call3 (n_of (by omega) hn) rfl (Nat.le_of_ble_eq_true rfl) (Or.inl (by first | exact hn | assumption)) (rcv_at (by first | exact rw_md hn | exact rw_w hn | exact rw_A hn (by exact rfl) | exact rw_B2 hn | exact rw_B3 hn | assumption) (by decide) (by decide)) (Nat.le_of_ble_eq_true rfl) (Nat.le_of_ble_eq_true rfl) (fun E w9 hq => hq.elim) ?_
        rintro v9 w9 ⟨rfl, rfl⟩
        refine x_ifge rfl (fun c4 => ?_) (fun c4 => ?_)
        rotate_left
        · refine x_go rfl ?_
          exact skip (fun h => c4 h.2) _
        refine x_ll rfl rfl ?_
        refine x_c rfl ?_
        refine x_ladd rfl ?_
        refine x_ls (lo' := [_, _, _, _, _, _, _, _, _, _, _, _, _, _, _]) rfl (Nat.le_of_ble_eq_true rfl) rfl ?_
        refine x_ll rfl rfl ?_
        refine x_al rfl rfl ?_
        refine x_il rfl rfl ?_
        refine x_il rfl rfl ?_
        refine x_c rfl ?_
        have hin : inP f j c := ⟨c3, c4⟩
        have hal : Int64.ofNat (2 + alN f j c) + 1 = Int64.ofNat (2 + alN f j (c + 1)) := by
          unfold alN
          rw [lo_1, cn_t (by rw [decide_eq_true_eq]; exact hin)]
          rfl
        refine x_call4 (n_classOf hF1 c2 (by omega) hn) rfl (Nat.le_of_ble_eq_true rfl) (Or.inl (by first | exact hn | assumption)) (rcv_at (by first | exact rw_md hn | exact rw_w hn | exact rw_A hn (by exact rfl) | exact rw_B2 hn | exact rw_B3 hn | assumption) (by decide) (by decide)) (Nat.le_of_ble_eq_true rfl) (Nat.le_of_ble_eq_true rfl) (fun E w9 hq => hq.elim) ?_
        rintro v9 w9 ⟨rfl, rfl⟩
        refine x_il rfl rfl ?_
        refine x_icne rfl (fun c5 => ?_) (fun c5 => ?_)
        · refine x_c rfl ?_
          refine x_ladd rfl ?_
          refine x_ls (lo' := [_, _, _, _, _, _, _, _, _, _, _, _, _, _, _]) rfl (Nat.le_of_ble_eq_true rfl) rfl ?_
          refine nextc _ _ _ ?_ hal
          unfold hvN
          rw [cn_f (by rw [decide_eq_true_eq]; exact fun h => c5 h.2)]
          exact Int64.add_zero _
        · refine x_c rfl ?_
          refine x_go rfl ?_
          refine x_ladd rfl ?_
          refine x_ls (lo' := [_, _, _, _, _, _, _, _, _, _, _, _, _, _, _]) rfl (Nat.le_of_ble_eq_true rfl) rfl ?_
          refine nextc _ _ _ ?_ hal
          unfold hvN
          rw [cn_t (by rw [decide_eq_true_eq]; exact ⟨hin, c5⟩)]
          exact lo_1 _
      exact inner 0 (Nat.zero_le _) _
    exact loop 0 (Nat.zero_le _) _ _ _ _ _ _ _ _ _ rfl
end CALLS
