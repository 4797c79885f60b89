/-! prints of the class: pattern, ridges, their sort; cw_ -/
theorem ite_add {P : Prop} [Decidable P] {a x y : Int32} (hx : a + 1 = x) (hy : a + 0 = y) : a + (if P then 1 else 0) = if P then x else y := by
  split
  · exact hx
  · exact hy
section CALLS
variable {g : aG} {d : Nat} {w : aW} {F A : Nat → Nat → Int32} {L : Nat → Int64} {f : Nat → Int32}
theorem c_findPattern {q p : Nat} (hq : PrAt q) (hC : CeA A q f p) (hR : CeR f p) (hn : w.1 = N0) : Ev g (d + 4) 37 [.ref q] (cW w F A L) (RetQ (patF (turnF f p)) (cW w F A L)) noX := by
  refine ev_X4_findPattern ?_ (Nat.le_of_ble_eq_true rfl)
  refine x_lo (lo' := [some (.ref q), none, none, none, none]) rfl ?_
  refine x_c rfl ?_
  refine x_is (lo' := [_, _, _, _, _]) rfl (Nat.le_of_ble_eq_true rfl) rfl ?_
  refine x_c rfl ?_
  refine x_is (lo' := [_, _, _, _, _]) rfl (Nat.le_of_ble_eq_true rfl) rfl ?_
  refine x_c rfl ?_
  refine x_is (lo' := [_, _, _, _, _]) rfl (Nat.le_of_ble_eq_true rfl) rfl ?_
  have loop : ∀ c, c ≤ 49 → ∀ o5, EX g mbOf (Ev g (d + 3)) (infoOf 37) k_X4_findPattern (RetQ (patF (turnF f p)) (cW w F A L)) noX w.1 (cW w F A L) 0 0 6 [some (.ref q), some (.int (nI (cn (fun c => turnF f p c == 8) c))), some (.int (nI (cn (fun c => turnF f p c == -8) c))), some (.int (nI c)), o5] [] := by
    refine downN 49 fun c hc ih => ?_
    intro o5
    have l1 := cn_le (fun c => turnF f p c == 8) c
    have l2 := cn_le (fun c => turnF f p c == -8) c
    refine x_il rfl rfl ?_
    refine x_c rfl ?_
    refine x_icgeN (y := 49) rfl (by omega) (fun c1 => ?_) (fun c1 => ?_)
    · refine x_il rfl rfl ?_
      have : c = 49 := by omega
      subst this
      unfold patF
      generalize hk1 : cn (fun c => turnF f p c == 8) 49 = k1 at *
      generalize hk2 : cn (fun c => turnF f p c == -8) 49 = k2 at *
      have tail : EX g mbOf (Ev g (d + 3)) (infoOf 37) k_X4_findPattern (RetQ (if k1 = 2 ∧ k2 = 2 then 4 else if ¬ k1 = 1 ∨ ¬ k2 = 1 then 5 else if rem7 (sinF (turnF f p) 8 0) = rem7 (sinF (turnF f p) (-8) 0) then 1 else if rem7 (sinF (turnF f p) 8 0) < rem7 (sinF (turnF f p) (-8) 0) then 2 else 3) (cW w F A L)) noX w.1 (cW w F A L) 0 0 39 [some (.ref q), some (.int (nI k1)), some (.int (nI k2)), some (.int (nI 49)), o5] [] := by
        have tail2 : ¬ (k1 = 2 ∧ k2 = 2) → EX g mbOf (Ev g (d + 3)) (infoOf 37) k_X4_findPattern (RetQ (if ¬ k1 = 1 ∨ ¬ k2 = 1 then 5 else if rem7 (sinF (turnF f p) 8 0) = rem7 (sinF (turnF f p) (-8) 0) then 1 else if rem7 (sinF (turnF f p) 8 0) < rem7 (sinF (turnF f p) (-8) 0) then 2 else 3) (cW w F A L)) noX w.1 (cW w F A L) 0 0 47 [some (.ref q), some (.int (nI k1)), some (.int (nI k2)), some (.int (nI 49)), o5] [] := by
          intro _
          refine x_il rfl rfl ?_
          refine x_c rfl ?_
          refine x_icneN (y := 1) rfl (by omega) (fun e1 => ?_) (fun e1 => ?_)
          · refine x_c rfl ?_
            refine x_reti rfl (Nat.le_of_ble_eq_true rfl) (Nat.le_of_ble_eq_true rfl) rfl ?_
            exact ⟨by rw [if_pos (Or.inl e1)], rfl⟩
          refine x_il rfl rfl ?_
          refine x_c rfl ?_
          refine x_iceqN (y := 1) rfl (by omega) (fun e2 => ?_) (fun e2 => ?_)
          rotate_left
          · refine x_c rfl ?_
            refine x_reti rfl (Nat.le_of_ble_eq_true rfl) (Nat.le_of_ble_eq_true rfl) rfl ?_
            exact ⟨by rw [if_pos (Or.inr e2)], rfl⟩
          refine x_al rfl rfl ?_
          refine x_c rfl ?_
          refine x_c rfl ?_
          rw [if_neg (fun h => h.elim (fun h => h e1) (fun h => h e2))]
          unfold rem7
          refine x_call3 (c_cornerOf hq hC hR hn) rfl (Nat.le_of_ble_eq_true rfl) (Or.inl (by first | exact hn | assumption)) (rcv_at (cw_fs (by with_reducible exact pr_0 (by first | assumption | exact prA (by omega) | exact prD | exact prB (by assumption) (by omega))) hn) (by decide) (by decide)) (Nat.le_of_ble_eq_true rfl) (Nat.le_of_ble_eq_true rfl) (fun E w9 hq => hq.elim) ?_
          rintro v9 w9 ⟨rfl, rfl⟩
          refine x_c rfl ?_
          refine x_rem rfl (by decide) ?_
          refine x_is (lo' := [_, _, _, _, _]) rfl (Nat.le_of_ble_eq_true rfl) rfl ?_
          refine x_al rfl rfl ?_
          refine x_c rfl ?_
          refine x_c rfl ?_
          refine x_call3 (c_cornerOf hq hC hR hn) rfl (Nat.le_of_ble_eq_true rfl) (Or.inl (by first | exact hn | assumption)) (rcv_at (cw_fs (by with_reducible exact pr_0 (by first | assumption | exact prA (by omega) | exact prD | exact prB (by assumption) (by omega))) hn) (by decide) (by decide)) (Nat.le_of_ble_eq_true rfl) (Nat.le_of_ble_eq_true rfl) (fun E w9 hq => hq.elim) ?_
          rintro v9 w9 ⟨rfl, rfl⟩
          refine x_c rfl ?_
          refine x_rem rfl (by decide) ?_
          refine x_is (lo' := [_, _, _, _, _]) rfl (Nat.le_of_ble_eq_true rfl) rfl ?_
          refine x_il rfl rfl ?_
          refine x_il rfl rfl ?_
          refine x_icne rfl (fun e3 => ?_) (fun e3 => ?_)
          rotate_left
          · refine x_c rfl ?_
            refine x_reti rfl (Nat.le_of_ble_eq_true rfl) (Nat.le_of_ble_eq_true rfl) rfl ?_
            exact ⟨by rw [if_pos e3], rfl⟩
          refine x_il rfl rfl ?_
          refine x_il rfl rfl ?_
          refine x_icle rfl (fun e4 => ?_) (fun e4 => ?_)
          · refine x_c rfl ?_
            refine x_reti rfl (Nat.le_of_ble_eq_true rfl) (Nat.le_of_ble_eq_true rfl) rfl ?_
            exact ⟨by rw [if_neg e3, if_neg (Int32.not_lt.mpr e4)], rfl⟩
          refine x_c rfl ?_
          refine x_go rfl ?_
          refine x_reti rfl (Nat.le_of_ble_eq_true rfl) (Nat.le_of_ble_eq_true rfl) rfl ?_
          exact ⟨by rw [if_neg e3, if_pos (Int32.not_le.mp e4)], rfl⟩
        refine x_il rfl rfl ?_
        refine x_c rfl ?_
        refine x_icneN (y := 2) rfl (by omega) (fun e1 => ?_) (fun e1 => ?_)
        · skip
          rw [if_neg (fun h => e1 h.1)]
          exact tail2 (fun h => e1 h.1)
        refine x_il rfl rfl ?_
        refine x_c rfl ?_
        refine x_icneN (y := 2) rfl (by omega) (fun e2 => ?_) (fun e2 => ?_)
        · skip
          rw [if_neg (fun h => e2 h.2)]
          exact tail2 (fun h => e2 h.2)
        refine x_c rfl ?_
        refine x_reti rfl (Nat.le_of_ble_eq_true rfl) (Nat.le_of_ble_eq_true rfl) rfl ?_
        exact ⟨by rw [if_pos ⟨e1, e2⟩], rfl⟩
      refine x_ifneN rfl (by omega) (fun e1 => ?_) (fun e1 => ?_)
      · skip
        rw [if_neg (fun h => e1 h.1)]
        exact tail
      refine x_il rfl rfl ?_
      refine x_ifneN rfl (by omega) (fun e2 => ?_) (fun e2 => ?_)
      · skip
        rw [if_neg (fun h => e2 h.2)]
        exact tail
      refine x_c rfl ?_
      refine x_reti rfl (Nat.le_of_ble_eq_true rfl) (Nat.le_of_ble_eq_true rfl) rfl ?_
      exact ⟨by rw [if_pos ⟨e1, e2⟩], rfl⟩
    refine x_al rfl rfl ?_
    refine x_il rfl rfl ?_
    refine x_call2 (c_turnAround hq hC hR c1 hn) rfl (Nat.le_of_ble_eq_true rfl) (Or.inl (by first | exact hn | assumption)) (rcv_at (cw_fs (by with_reducible exact pr_0 (by first | assumption | exact prA (by omega) | exact prD | exact prB (by assumption) (by omega))) hn) (by decide) (by decide)) (Nat.le_of_ble_eq_true rfl) (Nat.le_of_ble_eq_true rfl) (fun E w9 hq => hq.elim) ?_
    rintro v9 w9 ⟨rfl, rfl⟩
    refine x_is (lo' := [_, _, _, _, _]) rfl (Nat.le_of_ble_eq_true rfl) rfl ?_
    refine x_il rfl rfl ?_
    refine x_il rfl rfl ?_
    refine x_c rfl ?_
    generalize ht : turnF f p c = t
    have step : ∀ a b : Nat, a = cn (fun c => turnF f p c == 8) (c + 1) → b = cn (fun c => turnF f p c == -8) (c + 1) → EX g mbOf (Ev g (d + 3)) (infoOf 37) k_X4_findPattern (RetQ (patF (turnF f p)) (cW w F A L)) noX w.1 (cW w F A L) 0 0 6 [some (.ref q), some (.int (nI a)), some (.int (nI b)), some (.int (nI (c + 1))), some (.int t)] [] := by
      intro a b ha hb
      rw [ha, hb]; exact ih c1 _
    refine x_icne rfl (fun e1 => ?_) (fun e1 => ?_)
    · refine x_c rfl ?_
      refine x_addN (y := 0) rfl ?_
      refine x_is (lo' := [_, _, _, _, _]) rfl (Nat.le_of_ble_eq_true rfl) rfl ?_
      refine x_il rfl rfl ?_
      refine x_il rfl rfl ?_
      refine x_c rfl ?_
      refine x_icne rfl (fun e2 => ?_) (fun e2 => ?_)
      · refine x_c rfl ?_
        refine x_addN (y := 0) rfl ?_
        refine x_is (lo' := [_, _, _, _, _]) rfl (Nat.le_of_ble_eq_true rfl) rfl ?_
        refine x_inc1 (lo' := [_, _, _, _, _]) rfl rfl rfl ?_
        refine x_go rfl ?_
        exact step _ _ (by rw [cn_f (by simpa [ht] using e1)]; rfl) (by rw [cn_f (by simpa [ht] using e2)]; rfl)
      refine x_c rfl ?_
      refine x_go rfl ?_
      refine x_addN (y := 1) rfl ?_
      refine x_is (lo' := [_, _, _, _, _]) rfl (Nat.le_of_ble_eq_true rfl) rfl ?_
      refine x_inc1 (lo' := [_, _, _, _, _]) rfl rfl rfl ?_
      refine x_go rfl ?_
      exact step _ _ (by rw [cn_f (by simpa [ht] using e1)]; rfl) (by rw [cn_t (by simpa [ht] using e2)])
    refine x_c rfl ?_
    refine x_go rfl ?_
    refine x_addN (y := 1) rfl ?_
    refine x_is (lo' := [_, _, _, _, _]) rfl (Nat.le_of_ble_eq_true rfl) rfl ?_
    refine x_il rfl rfl ?_
    refine x_il rfl rfl ?_
    refine x_c rfl ?_
    refine x_icne rfl (fun e2 => ?_) (fun e2 => ?_)
    · refine x_c rfl ?_
      refine x_addN (y := 0) rfl ?_
      refine x_is (lo' := [_, _, _, _, _]) rfl (Nat.le_of_ble_eq_true rfl) rfl ?_
      refine x_inc1 (lo' := [_, _, _, _, _]) rfl rfl rfl ?_
      refine x_go rfl ?_
      exact step _ _ (by rw [cn_t (by simpa [ht] using e1)]) (by rw [cn_f (by simpa [ht] using e2)]; rfl)
    refine x_c rfl ?_
    refine x_go rfl ?_
    refine x_addN (y := 1) rfl ?_
    refine x_is (lo' := [_, _, _, _, _]) rfl (Nat.le_of_ble_eq_true rfl) rfl ?_
    refine x_inc1 (lo' := [_, _, _, _, _]) rfl rfl rfl ?_
    refine x_go rfl ?_
    exact step _ _ (by rw [cn_t (by simpa [ht] using e1)]) (by rw [cn_t (by simpa [ht] using e2)])
  exact loop 0 (by decide) _
/-- the rows of ridges by direction -/
def riX : Nat → Int32 := fun j => nI ([0, 1, 2, 3, 3, 3, 2, 1].getD j 0)
def riY : Nat → Int32 := fun j => nI ([3, 3, 2, 1, 0, 1, 2, 3].getD j 0)
def HRi (g : aG) : Prop := g.2 0 = .ref (FB + 200) ∧ g.1 200 = some (0, 8, riX) ∧ g.2 1 = .ref (FB + 201) ∧ g.1 201 = some (0, 8, riY)
theorem ri_x : ∀ v : Fin 8, riX v.1 = aX (nI v.1) := by decide
theorem ri_y : ∀ v : Fin 8, riY v.1 = aY (nI v.1) := by decide
theorem c_ridgesBy {v : Int32} {r : Nat} {h : Nat → Int32} {fn : Int32 → Int32} (hg : g.1 r = some (0, 8, h)) (hv : v = -1 ∨ ∃ x, x < 8 ∧ v = nI x) (h0 : fn (-1) = 0) (h1 : ∀ x : Fin 8, h x.1 = fn (nI x.1)) (hn : w.1 = N0) : Ev g (d + 1) 39 [.int v, .ref (FB + r)] w (RetQ (fn v) w) noX := by
  have er : FB + r - FB = r := Nat.add_sub_cancel_left _ _
  refine ev_X4_ridgesBy ?_ (Nat.le_of_ble_eq_true rfl)
  refine x_lo (lo' := [some (.int v), some (.ref (FB + r))]) rfl ?_
  refine x_il rfl rfl ?_
  rcases hv with rfl | ⟨x, hx, rfl⟩
  · refine x_iflt rfl (fun e => ?_) (fun e => absurd (by decide) e)
    refine x_c rfl ?_
    refine x_reti rfl (Nat.le_of_ble_eq_true rfl) (Nat.le_of_ble_eq_true rfl) rfl ?_
    exact ⟨by rw [h0], rfl⟩
  refine x_iflt rfl (fun e => absurd e (nI_pos (by omega))) (fun e => ?_)
  refine x_il rfl rfl ?_
  refine x_al rfl rfl ?_
  refine x_lenF rfl (Nat.le_add_right _ _) (by rw [er]; exact hg) ?_
  refine x_icge rfl (fun c => absurd ((nI_leI (a := 8) (by omega) (by omega)).mp c) (by omega)) (fun c => ?_)
  refine x_al rfl rfl ?_
  refine x_il rfl rfl ?_
  refine x_iaF rfl (Nat.le_add_right _ _) (by rw [er]; exact hg) (vp_in_nI hx (by decide)) ?_
  rw [nI_clamp (by omega)]
  refine x_go rfl ?_
  refine x_reti rfl (Nat.le_of_ble_eq_true rfl) (Nat.le_of_ble_eq_true rfl) rfl ?_
  exact ⟨by rw [show h x = fn (nI x) from h1 ⟨x, hx⟩], rfl⟩
theorem c_ridgeX {v : Int32} (hg : HRi g) (hv : v = -1 ∨ ∃ x, x < 8 ∧ v = nI x) (hn : w.1 = N0) : Ev g (d + 1) 39 [.int v, .ref (FB + 200)] w (RetQ (aX v) w) noX := c_ridgesBy hg.2.1 hv (by decide) ri_x hn
theorem c_ridgeY {v : Int32} (hg : HRi g) (hv : v = -1 ∨ ∃ x, x < 8 ∧ v = nI x) (hn : w.1 = N0) : Ev g (d + 1) 39 [.int v, .ref (FB + 201)] w (RetQ (aY v) w) noX := c_ridgesBy hg.2.2.2 hv (by decide) ri_y hn
theorem c_countRidges {q p : Nat} (hg : HRi g) (hq : PrAt q) (hC : CeA A q f p) (hR : CeR f p) (hp : 1 ≤ patF (turnF f p) ∧ patF (turnF f p) ≤ 4) (hn : w.1 = N0) : Ev g (d + 4) 38 [.ref q] (cW w F A L) (RetQ (ridF f p) (cW w F A L)) noX := by
  rw [show ridF f p = _ from if_pos hp]
  obtain ⟨k1, k2⟩ := pat_cn hp
  obtain ⟨e1, l1⟩ := sin_fst k1
  obtain ⟨e2, l2⟩ := sin_fst k2
  generalize fstN (turnF f p) 8 = ca at *
  generalize fstN (turnF f p) (-8) = ce at *
  unfold ridN
  have b1 : 1 ≤ ca % 7 + 1 ∧ ca % 7 + 1 < 8 ∧ 1 ≤ ca / 7 + 1 ∧ ca / 7 + 1 < 8 ∧ 1 ≤ ce % 7 + 1 ∧ ce % 7 + 1 < 8 ∧ 1 ≤ ce / 7 + 1 ∧ ce / 7 + 1 < 8 := by omega
  refine ev_X4_countRidges ?_ (Nat.le_of_ble_eq_true rfl)
  refine x_lo (lo' := [some (.ref q), none, none, none, none, none, none, none, none]) rfl ?_
  refine x_al rfl rfl ?_
  refine x_c rfl ?_
  refine x_c rfl ?_
  refine x_call3 (c_cornerOf hq hC hR hn) rfl (Nat.le_of_ble_eq_true rfl) (Or.inl (by first | exact hn | assumption)) (rcv_at (cw_fs (by with_reducible exact pr_0 (by first | assumption | exact prA (by omega) | exact prD | exact prB (by assumption) (by omega))) hn) (by decide) (by decide)) (Nat.le_of_ble_eq_true rfl) (Nat.le_of_ble_eq_true rfl) (fun E w9 hq => hq.elim) ?_
  rintro v9 w9 ⟨rfl, rfl⟩
  rw [e1]
  refine x_is (lo' := [_, _, _, _, _, _, _, _, _]) rfl (Nat.le_of_ble_eq_true rfl) rfl ?_
  refine x_al rfl rfl ?_
  refine x_c rfl ?_
  refine x_c rfl ?_
  refine x_call3 (c_cornerOf hq hC hR hn) rfl (Nat.le_of_ble_eq_true rfl) (Or.inl (by first | exact hn | assumption)) (rcv_at (cw_fs (by with_reducible exact pr_0 (by first | assumption | exact prA (by omega) | exact prD | exact prB (by assumption) (by omega))) hn) (by decide) (by decide)) (Nat.le_of_ble_eq_true rfl) (Nat.le_of_ble_eq_true rfl) (fun E w9 hq => hq.elim) ?_
  rintro v9 w9 ⟨rfl, rfl⟩
  rw [e2]
  refine x_is (lo' := [_, _, _, _, _, _, _, _, _]) rfl (Nat.le_of_ble_eq_true rfl) rfl ?_
  refine x_il rfl rfl ?_
  refine x_c rfl ?_
  refine x_remN (y := 7) rfl (by omega) ?_
  refine x_c rfl ?_
  refine x_addN (y := 1) rfl ?_
  refine x_is (lo' := [_, _, _, _, _, _, _, _, _]) rfl (Nat.le_of_ble_eq_true rfl) rfl ?_
  refine x_il rfl rfl ?_
  refine x_c rfl ?_
  refine x_divN (y := 7) rfl (by omega) ?_
  refine x_c rfl ?_
  refine x_addN (y := 1) rfl ?_
  refine x_is (lo' := [_, _, _, _, _, _, _, _, _]) rfl (Nat.le_of_ble_eq_true rfl) rfl ?_
  refine x_il rfl rfl ?_
  refine x_c rfl ?_
  refine x_remN (y := 7) rfl (by omega) ?_
  refine x_c rfl ?_
  refine x_addN (y := 1) rfl ?_
  refine x_is (lo' := [_, _, _, _, _, _, _, _, _]) rfl (Nat.le_of_ble_eq_true rfl) rfl ?_
  refine x_il rfl rfl ?_
  refine x_c rfl ?_
  refine x_divN (y := 7) rfl (by omega) ?_
  refine x_c rfl ?_
  refine x_addN (y := 1) rfl ?_
  refine x_is (lo' := [_, _, _, _, _, _, _, _, _]) rfl (Nat.le_of_ble_eq_true rfl) rfl ?_
  refine x_c rfl ?_
  refine x_is (lo' := [_, _, _, _, _, _, _, _, _]) rfl (Nat.le_of_ble_eq_true rfl) rfl ?_
  refine x_il rfl rfl ?_
  refine x_il rfl rfl ?_
  generalize ca % 7 + 1 = x0 at *
  generalize ca / 7 + 1 = y0 at *
  generalize ce % 7 + 1 = x1 at *
  generalize ce / 7 + 1 = y1 at *
  refine x_call2 (m_minN (by omega)) rfl (Nat.le_of_ble_eq_true rfl) (Or.inl (by first | exact hn | assumption)) trivial (Nat.le_of_ble_eq_true rfl) (Nat.le_of_ble_eq_true rfl) (fun E w9 hq => hq.elim) ?_
  rintro v9 w9 ⟨rfl, rfl⟩
  refine x_is (lo' := [_, _, _, _, _, _, _, _, _]) rfl (Nat.le_of_ble_eq_true rfl) rfl ?_
  have loopY : ∀ y, y ≤ max y0 y1 → min y0 y1 ≤ y → ∀ T : Int32, EX g mbOf (Ev g (d + 3)) (infoOf 38) k_X4_countRidges (RetQ (T + rng (gY f p x1) (min y0 y1) (max y0 y1)) (cW w F A L)) noX w.1 (cW w F A L) 0 0 60 [some (.ref q), some (.int (nI ca)), some (.int (nI ce)), some (.int (nI x0)), some (.int (nI y0)), some (.int (nI x1)), some (.int (nI y1)), some (.int (T + rng (gY f p x1) (min y0 y1) y)), some (.int (nI y))] [] := by
    refine downN _ fun y hy ih => ?_
    intro hm T
    refine x_il rfl rfl ?_
    refine x_il rfl rfl ?_
    refine x_il rfl rfl ?_
    refine x_call2 (m_maxN (by omega)) rfl (Nat.le_of_ble_eq_true rfl) (Or.inl (by first | exact hn | assumption)) trivial (Nat.le_of_ble_eq_true rfl) (Nat.le_of_ble_eq_true rfl) (fun E w9 hq => hq.elim) ?_
    rintro v9 w9 ⟨rfl, rfl⟩
    refine x_icgeN rfl (by omega) (fun c0 => ?_) (fun c0 => ?_)
    · refine x_il rfl rfl ?_
      refine x_reti rfl (Nat.le_of_ble_eq_true rfl) (Nat.le_of_ble_eq_true rfl) rfl ?_
      obtain rfl : y = max y0 y1 := by omega
      exact ⟨rfl, rfl⟩
    refine x_il rfl rfl ?_
    refine x_al rfl rfl ?_
    refine x_il rfl rfl ?_
    refine x_il rfl rfl ?_
    refine x_call3 (c_direction hq hC (by omega) (by omega) hn) rfl (Nat.le_of_ble_eq_true rfl) (Or.inl (by first | exact hn | assumption)) (rcv_at (cw_fs (by with_reducible exact pr_0 (by first | assumption | exact prA (by omega) | exact prD | exact prB (by assumption) (by omega))) hn) (by decide) (by decide)) (Nat.le_of_ble_eq_true rfl) (Nat.le_of_ble_eq_true rfl) (fun E w9 hq => hq.elim) ?_
    rintro v9 w9 ⟨rfl, rfl⟩
    refine x_gst rfl hg.2.2.1 ?_
    refine x_call2 (c_ridgeY hg (hR _ _ (by omega) (by omega)) hn) rfl (Nat.le_of_ble_eq_true rfl) (Or.inl (by first | exact hn | assumption)) trivial (Nat.le_of_ble_eq_true rfl) (Nat.le_of_ble_eq_true rfl) (fun E w9 hq => hq.elim) ?_
    rintro v9 w9 ⟨rfl, rfl⟩
    refine x_add rfl ?_
    refine x_is (lo' := [_, _, _, _, _, _, _, _, _]) rfl (Nat.le_of_ble_eq_true rfl) rfl ?_
    refine x_inc1 (lo' := [_, _, _, _, _, _, _, _, _]) rfl rfl rfl ?_
    refine x_go rfl ?_
    rw [Int32.add_assoc, show rng (gY f p x1) (min y0 y1) y + aY (f (5 + 97 * p + 8 * y + x1)) = rng (gY f p x1) (min y0 y1) (y + 1) from (rng_hi _ hm).symm]
    exact ih c0 (by omega) T
  have loopX : ∀ x, x ≤ max x0 x1 → min x0 x1 ≤ x → EX g mbOf (Ev g (d + 3)) (infoOf 38) k_X4_countRidges (RetQ (rng (gX f p y0) (min x0 x1) (max x0 x1) + rng (gY f p x1) (min y0 y1) (max y0 y1)) (cW w F A L)) noX w.1 (cW w F A L) 0 0 40 [some (.ref q), some (.int (nI ca)), some (.int (nI ce)), some (.int (nI x0)), some (.int (nI y0)), some (.int (nI x1)), some (.int (nI y1)), some (.int (rng (gX f p y0) (min x0 x1) x)), some (.int (nI x))] [] := by
    refine downN _ fun x hx ih => ?_
    intro hm
    refine x_il rfl rfl ?_
    refine x_il rfl rfl ?_
    refine x_il rfl rfl ?_
    refine x_call2 (m_maxN (by omega)) rfl (Nat.le_of_ble_eq_true rfl) (Or.inl (by first | exact hn | assumption)) trivial (Nat.le_of_ble_eq_true rfl) (Nat.le_of_ble_eq_true rfl) (fun E w9 hq => hq.elim) ?_
    rintro v9 w9 ⟨rfl, rfl⟩
    refine x_icgeN rfl (by omega) (fun c0 => ?_) (fun c0 => ?_)
    · refine x_il rfl rfl ?_
      refine x_il rfl rfl ?_
      obtain rfl : x = max x0 x1 := by omega
      refine x_call2 (m_minN (by omega)) rfl (Nat.le_of_ble_eq_true rfl) (Or.inl (by first | exact hn | assumption)) trivial (Nat.le_of_ble_eq_true rfl) (Nat.le_of_ble_eq_true rfl) (fun E w9 hq => hq.elim) ?_
      rintro v9 w9 ⟨rfl, rfl⟩
      refine x_is (lo' := [_, _, _, _, _, _, _, _, _]) rfl (Nat.le_of_ble_eq_true rfl) rfl ?_
      have := loopY (min y0 y1) (by omega) (Nat.le_refl _) (rng (gX f p y0) (min x0 x1) (max x0 x1))
      rw [rng_0 (gY f p x1) (Nat.le_refl (min y0 y1)), Int32.add_zero] at this
      exact this
    refine x_il rfl rfl ?_
    refine x_al rfl rfl ?_
    refine x_il rfl rfl ?_
    refine x_il rfl rfl ?_
    refine x_call3 (c_direction hq hC (by omega) (by omega) hn) rfl (Nat.le_of_ble_eq_true rfl) (Or.inl (by first | exact hn | assumption)) (rcv_at (cw_fs (by with_reducible exact pr_0 (by first | assumption | exact prA (by omega) | exact prD | exact prB (by assumption) (by omega))) hn) (by decide) (by decide)) (Nat.le_of_ble_eq_true rfl) (Nat.le_of_ble_eq_true rfl) (fun E w9 hq => hq.elim) ?_
    rintro v9 w9 ⟨rfl, rfl⟩
    refine x_gst rfl hg.1 ?_
    refine x_call2 (c_ridgeX hg (hR _ _ (by omega) (by omega)) hn) rfl (Nat.le_of_ble_eq_true rfl) (Or.inl (by first | exact hn | assumption)) trivial (Nat.le_of_ble_eq_true rfl) (Nat.le_of_ble_eq_true rfl) (fun E w9 hq => hq.elim) ?_
    rintro v9 w9 ⟨rfl, rfl⟩
    refine x_add rfl ?_
    refine x_is (lo' := [_, _, _, _, _, _, _, _, _]) rfl (Nat.le_of_ble_eq_true rfl) rfl ?_
    refine x_inc1 (lo' := [_, _, _, _, _, _, _, _, _]) rfl rfl rfl ?_
    refine x_go rfl ?_
    rw [show rng (gX f p y0) (min x0 x1) x + aX (f (5 + 97 * p + 8 * y0 + x)) = rng (gX f p y0) (min x0 x1) (x + 1) from (rng_hi _ hm).symm]
    exact ih c0 (by omega)
  have := loopX (min x0 x1) (by omega) (Nat.le_refl _)
  rw [rng_0 (gX f p y0) (Nat.le_refl (min x0 x1))] at this
  exact this
/-- what was found of the print at q -/
def FoP (F : Nat → Nat → Int32) (q : Nat) (f : Nat → Int32) (p : Nat) : Prop := F q 2 = patF (turnF f p) ∧ F q 3 = ridF f p ∧ F q 4 = clsF f p
theorem c_findClass {q p : Nat} (hq : PrAt q) (h2 : F q 2 = patF (turnF f p)) (h3 : F q 3 = ridF f p) (hn : w.1 = N0) : Ev g (d + 1) 40 [.ref q] (cW w F A L) (RetQ (clsF f p) (cW w F A L)) noX := by
  refine ev_X4_findClass ?_ (Nat.le_of_ble_eq_true rfl)
  refine x_lo (lo' := [some (.ref q), none]) rfl ?_
  refine x_al rfl rfl ?_
  refine x_getC rfl hn (by with_reducible exact pr_0 (by first | assumption | exact prA (by omega) | exact prD | exact prB (by assumption) (by omega))) (by exact rfl) ?_
  refine x_c rfl ?_
  rw [h3]
  have tail : ∀ k : Int32, k = (if 9 < ridF f p then 1 else 0) → EX g mbOf (Ev g (d)) (infoOf 40) k_X4_findClass (RetQ (clsF f p) (cW w F A L)) noX w.1 (cW w F A L) 0 0 7 [some (.ref q), none] [.int k] := by
    intro k hk
    refine x_is (lo' := [_, _]) rfl (Nat.le_of_ble_eq_true rfl) rfl ?_
    refine x_al rfl rfl ?_
    refine x_getC rfl hn (by with_reducible exact pr_0 (by first | assumption | exact prA (by omega) | exact prD | exact prB (by assumption) (by omega))) (by exact rfl) ?_
    rw [h2]
    unfold clsF
    rcases pat_is (turnF f p) with e | e | e | e | e | e
    · rw [e]
      refine x_swD rfl (by decide) ?_
      refine x_al rfl rfl ?_
      refine x_getC rfl hn (by with_reducible exact pr_0 (by first | assumption | exact prA (by omega) | exact prD | exact prB (by assumption) (by omega))) (by exact rfl) ?_
      rw [h2, e]
      refine x_reti rfl (Nat.le_of_ble_eq_true rfl) (Nat.le_of_ble_eq_true rfl) rfl ?_
      exact ⟨rfl, rfl⟩
    · rw [e]
      refine x_swD rfl (by decide) ?_
      refine x_al rfl rfl ?_
      refine x_getC rfl hn (by with_reducible exact pr_0 (by first | assumption | exact prA (by omega) | exact prD | exact prB (by assumption) (by omega))) (by exact rfl) ?_
      rw [h2, e]
      refine x_reti rfl (Nat.le_of_ble_eq_true rfl) (Nat.le_of_ble_eq_true rfl) rfl ?_
      exact ⟨rfl, rfl⟩
    · rw [e]
      refine x_swJ 0 rfl (by decide) rfl ?_
      refine x_c rfl ?_
      refine x_il rfl rfl ?_
      refine x_add rfl ?_
      refine x_reti rfl (Nat.le_of_ble_eq_true rfl) (Nat.le_of_ble_eq_true rfl) rfl ?_
      exact ⟨by rw [if_pos rfl, hk, ite_add (x := 3) (y := 2) rfl rfl], rfl⟩
    · rw [e]
      refine x_swJ 1 rfl (by decide) rfl ?_
      refine x_c rfl ?_
      refine x_il rfl rfl ?_
      refine x_add rfl ?_
      refine x_reti rfl (Nat.le_of_ble_eq_true rfl) (Nat.le_of_ble_eq_true rfl) rfl ?_
      exact ⟨by rw [if_neg (by decide), if_pos rfl, hk, ite_add (x := 5) (y := 4) rfl rfl], rfl⟩
    · rw [e]
      refine x_swJ 2 rfl (by decide) rfl ?_
      refine x_c rfl ?_
      refine x_reti rfl (Nat.le_of_ble_eq_true rfl) (Nat.le_of_ble_eq_true rfl) rfl ?_
      exact ⟨rfl, rfl⟩
    · rw [e]
      refine x_swJ 3 rfl (by decide) rfl ?_
      refine x_c rfl ?_
      refine x_reti rfl (Nat.le_of_ble_eq_true rfl) (Nat.le_of_ble_eq_true rfl) rfl ?_
      exact ⟨rfl, rfl⟩
  refine x_icle rfl (fun c => ?_) (fun c => ?_)
  · refine x_c rfl ?_
    exact tail 0 (by rw [if_neg (Int32.not_lt.mpr c)])
  refine x_c rfl ?_
  refine x_go rfl ?_
  exact tail 1 (by rw [if_pos (Int32.not_le.mp c)])
theorem c_settle {q p : Nat} (hg : HRi g) (hq : PrAt q) (hC : CeA A q f p) (hR : CeR f p) (hn : w.1 = N0) : Ev g (d + 5) 32 [.ref q] (cW w F A L) (fun v w' => v = none ∧ w' = cW w (udA F q (upd (upd (upd (F q) 2 (patF (turnF f p))) 3 (ridF f p)) 4 (clsF f p))) A L) noX := by
  refine ev_X4_settle ?_ (Nat.le_of_ble_eq_true rfl)
  refine x_lo (lo' := [some (.ref q)]) rfl ?_
  refine x_al rfl rfl ?_
  refine x_al rfl rfl ?_
  refine x_call1 (c_findPattern hq hC hR hn) rfl (Nat.le_of_ble_eq_true rfl) (Or.inl (by first | exact hn | assumption)) (rcv_at (cw_fs (by with_reducible exact pr_0 (by first | assumption | exact prA (by omega) | exact prD | exact prB (by assumption) (by omega))) hn) (by decide) (by decide)) (Nat.le_of_ble_eq_true rfl) (Nat.le_of_ble_eq_true rfl) (fun E w9 hq => hq.elim) ?_
  rintro v9 w9 ⟨rfl, rfl⟩
  refine x_putC rfl hn (by with_reducible exact pr_0 (by first | assumption | exact prA (by omega) | exact prD | exact prB (by assumption) (by omega))) (by exact rfl) (by first | rfl | exact nr_z (by assumption)) rfl ?_
  refine x_al rfl rfl ?_
  refine x_al rfl rfl ?_
  refine x_getC rfl hn (by with_reducible exact pr_0 (by first | assumption | exact prA (by omega) | exact prD | exact prB (by assumption) (by omega))) (by exact rfl) ?_
  refine x_c rfl ?_
  rw [udA_t, show upd (F q) 2 (patF (turnF f p)) 2 = patF (turnF f p) from upd_at]
  have tail : ∀ r, r = ridF f p → EX g mbOf (Ev g (d + 4)) (infoOf 32) k_X4_settle (fun v w' => v = none ∧ w' = cW w (udA F q (upd (upd (upd (F q) 2 (patF (turnF f p))) 3 (ridF f p)) 4 (clsF f p))) A L) noX w.1 (cW w (udA F q (upd (F q) 2 (patF (turnF f p)))) A L) 0 0 17 [some (.ref q)] [.int r, .ref q] := by
    intro r hr
    subst hr
    refine x_putC rfl hn (by with_reducible exact pr_0 (by first | assumption | exact prA (by omega) | exact prD | exact prB (by assumption) (by omega))) (by exact rfl) (by first | rfl | exact nr_z (by assumption)) rfl ?_
    refine x_al rfl rfl ?_
    refine x_al rfl rfl ?_
    refine x_call1 (c_findClass (p := p) (f := f) hq (by rw [udA_t, udA_t]; rfl) (by rw [udA_t, udA_t]; rfl) hn) rfl (Nat.le_of_ble_eq_true rfl) (Or.inl (by first | exact hn | assumption)) (rcv_at (cw_fs (by with_reducible exact pr_0 (by first | assumption | exact prA (by omega) | exact prD | exact prB (by assumption) (by omega))) hn) (by decide) (by decide)) (Nat.le_of_ble_eq_true rfl) (Nat.le_of_ble_eq_true rfl) (fun E w9 hq => hq.elim) ?_
    rintro v9 w9 ⟨rfl, rfl⟩
    refine x_putC rfl hn (by with_reducible exact pr_0 (by first | assumption | exact prA (by omega) | exact prD | exact prB (by assumption) (by omega))) (by exact rfl) (by first | rfl | exact nr_z (by assumption)) rfl ?_
    refine x_retv rfl (Nat.le_of_ble_eq_true rfl) (Nat.le_of_ble_eq_true rfl) rfl ?_
    refine ⟨rfl, ?_⟩
    simp only [udA_t, udA_udA]
  refine x_iclt rfl (fun c1 => ?_) (fun c1 => ?_)
  · refine x_c rfl ?_
    exact tail 0 (if_neg (fun h => absurd c1 (Int32.not_lt.mpr h.1))).symm
  refine x_al rfl rfl ?_
  refine x_getC rfl hn (by with_reducible exact pr_0 (by first | assumption | exact prA (by omega) | exact prD | exact prB (by assumption) (by omega))) (by exact rfl) ?_
  rw [udA_t, show upd (F q) 2 (patF (turnF f p)) 2 = patF (turnF f p) from upd_at]
  refine x_c rfl ?_
  refine x_icgt rfl (fun c2 => ?_) (fun c2 => ?_)
  · refine x_c rfl ?_
    exact tail 0 (if_neg (fun h => absurd c2 (Int32.not_lt.mpr h.2))).symm
  refine x_al rfl rfl ?_
  refine x_call1 (c_countRidges hg hq hC hR ⟨Int32.not_lt.mp c1, Int32.not_lt.mp c2⟩ hn) rfl (Nat.le_of_ble_eq_true rfl) (Or.inl (by first | exact hn | assumption)) (rcv_at (cw_fs (by with_reducible exact pr_0 (by first | assumption | exact prA (by omega) | exact prD | exact prB (by assumption) (by omega))) hn) (by decide) (by decide)) (Nat.le_of_ble_eq_true rfl) (Nat.le_of_ble_eq_true rfl) (fun E w9 hq => hq.elim) ?_
  rintro v9 w9 ⟨rfl, rfl⟩
  refine x_go rfl ?_
  exact tail _ rfl
/-- the print at q is now what that at p was -/
def CpP (F A F' A' : Nat → Nat → Int32) (q p : Nat) : Prop :=
  (∀ k, k < 64 → A' (q + 1) k = A (p + 1) k) ∧ F' q 2 = F p 2 ∧ F' q 3 = F p 3 ∧ F' q 4 = F p 4 ∧ (∀ k, 4 ≤ k → k < 9 → F' (q + 2) k = F (p + 2) k) ∧ (∀ r, 3 ≤ r → r < 7 → ∀ j, j < 8 → A' (q + r) j = A (p + r) j) ∧ (∀ r, (r < q ∨ q + 7 ≤ r) → F' r = F r ∧ A' r = A r)
theorem c_copyPrint {q p : Nat} (hq : PrAt q) (hp : PrAt p) (hd : p + 6 < q ∨ q + 6 < p) (hn : w.1 = N0) : Ev g (d + 4) 41 [.ref q, .ref p] (cW w F A L) (fun v w' => v = none ∧ ∃ F' A', w' = cW w F' A' L ∧ CpP F A F' A' q p) noX := by
  refine ev_X4_copyFrom ?_ (Nat.le_of_ble_eq_true rfl)
  refine x_lo (lo' := [some (.ref q), some (.ref p)]) rfl ?_
  refine x_al rfl rfl ?_
  refine x_getC rfl hn (by with_reducible exact pr_0 (by first | assumption | exact prA (by omega) | exact prD | exact prB (by assumption) (by omega))) (by exact rfl) ?_
  refine x_al rfl rfl ?_
  refine x_getC rfl hn (by with_reducible exact pr_0 (by first | assumption | exact prA (by omega) | exact prD | exact prB (by assumption) (by omega))) (by exact rfl) ?_
  refine x_call2 (c_copy (pr_1 hp) (pr_1 hq) (by decide) hn) rfl (Nat.le_of_ble_eq_true rfl) (Or.inl (by first | exact hn | assumption)) trivial (Nat.le_of_ble_eq_true rfl) (Nat.le_of_ble_eq_true rfl) (fun E w9 hq => hq.elim) ?_
  rintro v9 w9 ⟨rfl, rfl⟩
  refine x_al rfl rfl ?_
  refine x_getC rfl hn (by with_reducible exact pr_0 (by first | assumption | exact prA (by omega) | exact prD | exact prB (by assumption) (by omega))) (by exact rfl) ?_
  refine x_al rfl rfl ?_
  refine x_getC rfl hn (by with_reducible exact pr_0 (by first | assumption | exact prA (by omega) | exact prD | exact prB (by assumption) (by omega))) (by exact rfl) ?_
  refine x_call2 (c_copySheet (pr_sh hq) (pr_sh hp) (by omega) hn) rfl (Nat.le_of_ble_eq_true rfl) (Or.inl (by first | exact hn | assumption)) (rcv_at (cw_fs (by with_reducible exact sh_0 (by first | assumption | exact sh_turned | exact pr_sh (by first | assumption | exact prA (by omega) | exact prD | exact prB (by assumption) (by omega)) | exact ma_sh (by first | assumption | exact maA (by omega) | exact maB (by assumption) (by omega)))) hn) (by decide) (by decide)) (Nat.le_of_ble_eq_true rfl) (Nat.le_of_ble_eq_true rfl) (fun E w9 hq => hq.elim) ?_
  rintro v9 w9 ⟨rfl, h, A', rfl, ⟨s4, s5, s6, s7, s8⟩, sr, so⟩
  refine x_al rfl rfl ?_
  refine x_al rfl rfl ?_
  refine x_getC rfl hn (by with_reducible exact pr_0 (by first | assumption | exact prA (by omega) | exact prD | exact prB (by assumption) (by omega))) (by exact rfl) ?_
  refine x_putC rfl hn (by with_reducible exact pr_0 (by first | assumption | exact prA (by omega) | exact prD | exact prB (by assumption) (by omega))) (by exact rfl) (by first | rfl | exact nr_z (by assumption)) rfl ?_
  refine x_al rfl rfl ?_
  refine x_al rfl rfl ?_
  refine x_getC rfl hn (by with_reducible exact pr_0 (by first | assumption | exact prA (by omega) | exact prD | exact prB (by assumption) (by omega))) (by exact rfl) ?_
  refine x_putC rfl hn (by with_reducible exact pr_0 (by first | assumption | exact prA (by omega) | exact prD | exact prB (by assumption) (by omega))) (by exact rfl) (by first | rfl | exact nr_z (by assumption)) rfl ?_
  refine x_al rfl rfl ?_
  refine x_al rfl rfl ?_
  refine x_getC rfl hn (by with_reducible exact pr_0 (by first | assumption | exact prA (by omega) | exact prD | exact prB (by assumption) (by omega))) (by exact rfl) ?_
  refine x_putC rfl hn (by with_reducible exact pr_0 (by first | assumption | exact prA (by omega) | exact prD | exact prB (by assumption) (by omega))) (by exact rfl) (by first | rfl | exact nr_z (by assumption)) rfl ?_
  refine x_retv rfl (Nat.le_of_ble_eq_true rfl) (Nat.le_of_ble_eq_true rfl) rfl ?_
  refine ⟨rfl, _, _, rfl, ?_, ?_, ?_, ?_, ?_, ?_, ?_⟩
  · intro k hk
    rw [so (q + 1) (by omega), udA_t, cpC_at hk]
  · simp only [udA_t, udA_udA]
    rw [upd_ne (by decide), upd_ne (by decide), upd_at, udA_ne (by omega)]
  · simp only [udA_t, udA_udA]
    rw [upd_ne (by decide), upd_at, udA_ne (by omega), udA_ne (by omega)]
  · simp only [udA_t, udA_udA]
    rw [upd_at, udA_ne (by omega), udA_ne (by omega)]
  · intro k h4 h9
    simp only [udA_udA]
    rw [udA_ne (by omega), udA_t]
    obtain rfl | rfl | rfl | rfl | rfl : k = 4 ∨ k = 5 ∨ k = 6 ∨ k = 7 ∨ k = 8 := by omega
    · exact s4
    · exact s5
    · exact s6
    · exact s7
    · exact s8
  · intro r h3 h7 j hj
    have := sr (r - 2) (by omega) (by omega) j hj
    rw [show q + 2 + (r - 2) = q + r by omega, show p + 2 + (r - 2) = p + r by omega] at this
    rw [this, udA_ne (by omega)]
  · intro r hr
    refine ⟨?_, ?_⟩
    · simp only [udA_udA]
      rw [udA_ne (by omega), udA_ne (by omega)]
    · rw [so r (by omega), udA_ne (by omega)]
end CALLS
