/-! the law's wrappers of the class's calls; cw_ -/
/-- a call all whose exceptions are caught -/
theorem x_invH {g : aG} {d nb : Nat} {w : aW} {I : aInfo} {K : List aI} {Qr : Option Value → aW → Prop} {Qx : String → aW → Prop} {uc us i : Nat} {lo : List (Option Value)} {mid n : Nat} {l : List Nat} {as rest st0 : List Value} {Qr' : Option Value → aW → Prop} {Qx' : String → aW → Prop} (hK : K[i]? = some (aV mid n l)) (hs : st0 = as.reverse ++ rest) (hn : as.length = n) (hst : stW rest ≤ 8) (hw : w.1 = N0 ∨ w.1 = nb + uc) (hr : rcvA g l w as) (h1 : uc + (mbOf mid).1 ≤ I.1) (h2 : us + (mbOf mid).2 ≤ I.2.1)
    (hc : Ev g d mid as w Qr' Qx') (kr : ∀ v w', Qr' v w' → EX g mbOf (Ev g d) I K Qr Qx nb w' (uc + (mbOf mid).1) (us + (mbOf mid).2) (i + 1) lo (v.toList ++ rest))
    (kx : ∀ E w', Qx' E w' → ∃ h a vv ll, hndA I.2.2.2 E i = some h ∧ K[h]? = some (45, a, 0, vv, ll) ∧ a < lo.length ∧ EX g mbOf (Ev g d) I K Qr Qx nb w' (uc + (mbOf mid).1) (us + (mbOf mid).2) (h + 1) ((clr lo a).set a none) []) : EX g mbOf (Ev g d) I K Qr Qx nb w uc us i lo st0 :=
  x_inv hK hs hn hst hw hr h1 h2 hc kr (fun E w' hx => by
    obtain ⟨h, a, vv, ll, e, h1, h2, h3⟩ := kx E w' hx
    rw [e]
    exact ⟨a, vv, ll, h1, h2, h3⟩)
/-- how a wrapper without an answer ends -/
def wV (w : aW) (F A : Nat → Nat → Int32) (m f : Nat → Int32) (RA : Nat → Nat → Int32) (RB : Nat → Nat → Int64) (f1 : Nat → Int32) (v : Nat) (thr : Int32) : Option Value → aW → Prop := fun r W' => r = some (.int thr) ∧ ∃ F' A' L' o' np nm nc nt ns nh v', W' = lW w o' F' A' L' m f RA RB ∧ v' ≤ v + 1 ∧ stI F A F' A' f1 np nm nc nt ns nh v'
theorem wv_x {w : aW} {o : Nat → Int64} {F A : Nat → Nat → Int32} {L : Nat → Int64} {m f : Nat → Int32} {RA : Nat → Nat → Int32} {RB : Nat → Nat → Int64} {f1 : Nat → Int32} {np nm nc nt ns nh v : Nat} {thr x : Int32} (hK : KI F A f np nm v) (hR : RS F A f 6 np nm nc nt ns nh) (hI : IV f np nm nc nt ns nh) (hx : x = thr) (h0 : ¬ thr = 0) (hf : ¬ thr = 0 → f1 = f) : wV w F A m f RA RB f1 v thr (some (.int x)) (lW w o F A L m f RA RB) := by
  have e := hf h0
  subst e
  exact ⟨by rw [hx], F, A, L, o, np, nm, nc, nt, ns, nh, v, rfl, Nat.le_succ _, hR, hI, hK, fun _ _ => ⟨rfl, rfl⟩⟩
section CALLS
variable {g : aG} {d : Nat} {w : aW} {F A : Nat → Nat → Int32} {L : Nat → Int64} {f : Nat → Int32} {np nm nc nt ns nh v : Nat}
/-- days in the calls' form -/
theorem c_daysQ {x : Int32} (hK : KI F A f np nm v) (hR : RS F A f 6 np nm nc nt ns nh) (hI : IV f np nm nc nt ns nh) (hn : w.1 = N0) : Ev g (d + 16) 152 [.ref 0, .int x] (cW w F A L) (caQ w F A (if okN x 41 = true then daysF nt nc nm ns (cN x) f else f) v (if okN x 41 = true then 0 else 1) (some (.int (if okN x 41 = true then daysF nt nc nm ns (cN x) f 0 else 0)))) (caX (cW w F A L) (if okN x 41 = true then 0 else 1) 0 0) := by
  refine Ev_mono g _ _ _ _ _ _ _ _ (fun v1 w' hq => ?_) (fun E w' hq => ?_) (c_days hK hR hI hn)
  · obtain ⟨h1, rfl, F', A', L', nh', rfl, hS⟩ := hq
    rw [if_pos h1, if_pos h1, if_pos h1]
    exact ⟨rfl, rfl, F', A', L', np, nm, nc, nt, ns, nh', v, rfl, Nat.le_succ _, hS⟩
  · obtain ⟨h1, rfl, rfl⟩ := hq
    exact ⟨rfl, Or.inl ⟨if_neg (fne h1), rfl⟩⟩
theorem l_field {x y : Int32} {o : Nat → Int64} {m : Nat → Int32} {RA : Nat → Nat → Int32} {RB : Nat → Nat → Int64} (hK : KI F A f np nm v) (hR : RS F A f 6 np nm nc nt ns nh) (hI : IV f np nm nc nt ns nh) (hn : w.1 = N0) : Ev g (d + 4) 299 [.ref 0, .int x, .int y, .ref 1438] (lW w o F A L m f RA RB) (wQ w F A m f RA RB (f) v (if okN x np = true ∧ okN y 64 = true then 0 else 1) ((if okN x np = true ∧ okN y 64 = true then f (5 + 97 * cN x + cN y) else 0).toInt64)) noX := by
  have hf : ¬ ((if okN x np = true ∧ okN y 64 = true then 0 else 1) : Int32) = 0 → (f) = f := fun _ => rfl
  refine ev_L_field ?_ (Nat.le_of_ble_eq_true rfl)
  refine x_lo (lo' := [some (.ref 0), some (.int x), some (.int y), some (.ref 1438), none]) rfl ?_
  refine x_al rfl rfl ?_
  refine x_c rfl ?_
  refine x_al rfl rfl ?_
  refine x_il rfl rfl ?_
  refine x_il rfl rfl ?_
  refine x_invH (as := [.ref 0, .int x, .int y]) rfl rfl rfl (Nat.le_of_ble_eq_true rfl) (Or.inl hn) (rcv_at (cw_fs (w := rW (aUp w 1438 (oE o)) m f RA RB) sp_0 hn) (by decide) (by decide)) (Nat.le_of_ble_eq_true rfl) (Nat.le_of_ble_eq_true rfl) (c_field (w := rW (aUp w 1438 (oE o)) m f RA RB) hK hR hI hn) (fun v9 w9 hq => ?_) (fun E w9 hx => ?_)
  rotate_left
  · obtain ⟨rfl, ⟨h9, rfl⟩ | ⟨h9, rfl⟩⟩ := hx
    · refine ⟨9, _, _, _, by decide +kernel, rfl, (Nat.le_of_ble_eq_true rfl), ?_⟩
      refine x_c rfl ?_
      refine x_reti rfl (Nat.le_of_ble_eq_true rfl) (Nat.le_of_ble_eq_true rfl) rfl ?_
      exact wq_x hK hR hI h9.symm (by rw [h9]; decide) hf
    · exfalso
      revert h9
      split <;> first | decide | (split <;> decide)
  · obtain ⟨ht, rfl, F', A', L', np', nm', nc', nt', ns', nh', v', rfl, hv, hS⟩ := hq
    refine x_i2l rfl ?_
    refine x_lasN (j := 0) rfl (lW_at (w := w) (o := o) (F := F') (A := A') (L := L') (m := m) (f := f) (RA := RA) (RB := RB) hn) (by omega) ?_
    rw [show aUp (cW (rW (aUp w 1438 (oE o)) m f RA RB) F' A' L') 1438 (.inl (1, 1, .inr (.inl (vp_updL o 0 _)))) = lW w (vp_updL o 0 _) F' A' L' m f RA RB from lW_o]
    refine x_go rfl ?_
    refine x_c rfl ?_
    refine x_reti rfl (Nat.le_of_ble_eq_true rfl) (Nat.le_of_ble_eq_true rfl) rfl ?_
    exact ⟨by rw [ht], F', A', L', _, np', nm', nc', nt', ns', nh', v', rfl, hv, hS, fun _ => pk_uLs⟩
theorem l_turn {x y : Int32} {o : Nat → Int64} {m : Nat → Int32} {RA : Nat → Nat → Int32} {RB : Nat → Nat → Int64} (hK : KI F A f np nm v) (hR : RS F A f 6 np nm nc nt ns nh) (hI : IV f np nm nc nt ns nh) (hn : w.1 = N0) : Ev g (d + 4) 300 [.ref 0, .int x, .int y, .ref 1438] (lW w o F A L m f RA RB) (wQ w F A m f RA RB (f) v (if okN x np = true ∧ okN y 49 = true then 0 else 1) ((if okN x np = true ∧ okN y 49 = true then turnF f (cN x) (cN y) else 0).toInt64)) noX := by
  have hf : ¬ ((if okN x np = true ∧ okN y 49 = true then 0 else 1) : Int32) = 0 → (f) = f := fun _ => rfl
  refine ev_L_turn ?_ (Nat.le_of_ble_eq_true rfl)
  refine x_lo (lo' := [some (.ref 0), some (.int x), some (.int y), some (.ref 1438), none]) rfl ?_
  refine x_al rfl rfl ?_
  refine x_c rfl ?_
  refine x_al rfl rfl ?_
  refine x_il rfl rfl ?_
  refine x_il rfl rfl ?_
  refine x_invH (as := [.ref 0, .int x, .int y]) rfl rfl rfl (Nat.le_of_ble_eq_true rfl) (Or.inl hn) (rcv_at (cw_fs (w := rW (aUp w 1438 (oE o)) m f RA RB) sp_0 hn) (by decide) (by decide)) (Nat.le_of_ble_eq_true rfl) (Nat.le_of_ble_eq_true rfl) (c_turn (w := rW (aUp w 1438 (oE o)) m f RA RB) hK hR hI hn) (fun v9 w9 hq => ?_) (fun E w9 hx => ?_)
  rotate_left
  · obtain ⟨rfl, ⟨h9, rfl⟩ | ⟨h9, rfl⟩⟩ := hx
    · refine ⟨9, _, _, _, by decide +kernel, rfl, (Nat.le_of_ble_eq_true rfl), ?_⟩
      refine x_c rfl ?_
      refine x_reti rfl (Nat.le_of_ble_eq_true rfl) (Nat.le_of_ble_eq_true rfl) rfl ?_
      exact wq_x hK hR hI h9.symm (by rw [h9]; decide) hf
    · exfalso
      revert h9
      split <;> first | decide | (split <;> decide)
  · obtain ⟨ht, rfl, F', A', L', np', nm', nc', nt', ns', nh', v', rfl, hv, hS⟩ := hq
    refine x_i2l rfl ?_
    refine x_lasN (j := 0) rfl (lW_at (w := w) (o := o) (F := F') (A := A') (L := L') (m := m) (f := f) (RA := RA) (RB := RB) hn) (by omega) ?_
    rw [show aUp (cW (rW (aUp w 1438 (oE o)) m f RA RB) F' A' L') 1438 (.inl (1, 1, .inr (.inl (vp_updL o 0 _)))) = lW w (vp_updL o 0 _) F' A' L' m f RA RB from lW_o]
    refine x_go rfl ?_
    refine x_c rfl ?_
    refine x_reti rfl (Nat.le_of_ble_eq_true rfl) (Nat.le_of_ble_eq_true rfl) rfl ?_
    exact ⟨by rw [ht], F', A', L', _, np', nm', nc', nt', ns', nh', v', rfl, hv, hS, fun _ => pk_uLs⟩
theorem l_pattern {x : Int32} {o : Nat → Int64} {m : Nat → Int32} {RA : Nat → Nat → Int32} {RB : Nat → Nat → Int64} (hK : KI F A f np nm v) (hR : RS F A f 6 np nm nc nt ns nh) (hI : IV f np nm nc nt ns nh) (hn : w.1 = N0) : Ev g (d + 4) 301 [.ref 0, .int x, .ref 1438] (lW w o F A L m f RA RB) (wQ w F A m f RA RB (f) v (if okN x np = true then 0 else 1) ((if okN x np = true then patF (turnF f (cN x)) else 0).toInt64)) noX := by
  have hf : ¬ ((if okN x np = true then 0 else 1) : Int32) = 0 → (f) = f := fun _ => rfl
  refine ev_L_pattern ?_ (Nat.le_of_ble_eq_true rfl)
  refine x_lo (lo' := [some (.ref 0), some (.int x), some (.ref 1438), none]) rfl ?_
  refine x_al rfl rfl ?_
  refine x_c rfl ?_
  refine x_al rfl rfl ?_
  refine x_il rfl rfl ?_
  refine x_invH (as := [.ref 0, .int x]) rfl rfl rfl (Nat.le_of_ble_eq_true rfl) (Or.inl hn) (rcv_at (cw_fs (w := rW (aUp w 1438 (oE o)) m f RA RB) sp_0 hn) (by decide) (by decide)) (Nat.le_of_ble_eq_true rfl) (Nat.le_of_ble_eq_true rfl) (c_pattern (w := rW (aUp w 1438 (oE o)) m f RA RB) hK hR hI hn) (fun v9 w9 hq => ?_) (fun E w9 hx => ?_)
  rotate_left
  · obtain ⟨rfl, ⟨h9, rfl⟩ | ⟨h9, rfl⟩⟩ := hx
    · refine ⟨8, _, _, _, by decide +kernel, rfl, (Nat.le_of_ble_eq_true rfl), ?_⟩
      refine x_c rfl ?_
      refine x_reti rfl (Nat.le_of_ble_eq_true rfl) (Nat.le_of_ble_eq_true rfl) rfl ?_
      exact wq_x hK hR hI h9.symm (by rw [h9]; decide) hf
    · exfalso
      revert h9
      split <;> first | decide | (split <;> decide)
  · obtain ⟨ht, rfl, F', A', L', np', nm', nc', nt', ns', nh', v', rfl, hv, hS⟩ := hq
    refine x_i2l rfl ?_
    refine x_lasN (j := 0) rfl (lW_at (w := w) (o := o) (F := F') (A := A') (L := L') (m := m) (f := f) (RA := RA) (RB := RB) hn) (by omega) ?_
    rw [show aUp (cW (rW (aUp w 1438 (oE o)) m f RA RB) F' A' L') 1438 (.inl (1, 1, .inr (.inl (vp_updL o 0 _)))) = lW w (vp_updL o 0 _) F' A' L' m f RA RB from lW_o]
    refine x_go rfl ?_
    refine x_c rfl ?_
    refine x_reti rfl (Nat.le_of_ble_eq_true rfl) (Nat.le_of_ble_eq_true rfl) rfl ?_
    exact ⟨by rw [ht], F', A', L', _, np', nm', nc', nt', ns', nh', v', rfl, hv, hS, fun _ => pk_uLs⟩
theorem l_singular {x n : Int32} {dl : Bool} {o : Nat → Int64} {m : Nat → Int32} {RA : Nat → Nat → Int32} {RB : Nat → Nat → Int64} (hK : KI F A f np nm v) (hR : RS F A f 6 np nm nc nt ns nh) (hI : IV f np nm nc nt ns nh) (hn : w.1 = N0) : Ev g (d + 5) 302 [.ref 0, .int x, .int n, .int (bI dl), .ref 1438] (lW w o F A L m f RA RB) (wQ w F A m f RA RB (f) v (if okN x np = true then 0 else 1) ((if okN x np = true then (if n < 0 then -1 else sinF (turnF f (cN x)) (if dl = true then -8 else 8) n) else 0).toInt64)) noX := by
  have hf : ¬ ((if okN x np = true then 0 else 1) : Int32) = 0 → (f) = f := fun _ => rfl
  refine ev_L_singular ?_ (Nat.le_of_ble_eq_true rfl)
  refine x_lo (lo' := [some (.ref 0), some (.int x), some (.int n), some (.int (bI dl)), some (.ref 1438), none]) rfl ?_
  refine x_al rfl rfl ?_
  refine x_c rfl ?_
  refine x_al rfl rfl ?_
  refine x_il rfl rfl ?_
  refine x_il rfl rfl ?_
  refine x_il rfl rfl ?_
  refine x_invH (as := [.ref 0, .int x, .int n, .int (bI dl)]) rfl rfl rfl (Nat.le_of_ble_eq_true rfl) (Or.inl hn) (rcv_at (cw_fs (w := rW (aUp w 1438 (oE o)) m f RA RB) sp_0 hn) (by decide) (by decide)) (Nat.le_of_ble_eq_true rfl) (Nat.le_of_ble_eq_true rfl) (c_singular (w := rW (aUp w 1438 (oE o)) m f RA RB) hK hR hI hn) (fun v9 w9 hq => ?_) (fun E w9 hx => ?_)
  rotate_left
  · obtain ⟨rfl, ⟨h9, rfl⟩ | ⟨h9, rfl⟩⟩ := hx
    · refine ⟨10, _, _, _, by decide +kernel, rfl, (Nat.le_of_ble_eq_true rfl), ?_⟩
      refine x_c rfl ?_
      refine x_reti rfl (Nat.le_of_ble_eq_true rfl) (Nat.le_of_ble_eq_true rfl) rfl ?_
      exact wq_x hK hR hI h9.symm (by rw [h9]; decide) hf
    · exfalso
      revert h9
      split <;> first | decide | (split <;> decide)
  · obtain ⟨ht, rfl, F', A', L', np', nm', nc', nt', ns', nh', v', rfl, hv, hS⟩ := hq
    refine x_i2l rfl ?_
    refine x_lasN (j := 0) rfl (lW_at (w := w) (o := o) (F := F') (A := A') (L := L') (m := m) (f := f) (RA := RA) (RB := RB) hn) (by omega) ?_
    rw [show aUp (cW (rW (aUp w 1438 (oE o)) m f RA RB) F' A' L') 1438 (.inl (1, 1, .inr (.inl (vp_updL o 0 _)))) = lW w (vp_updL o 0 _) F' A' L' m f RA RB from lW_o]
    refine x_go rfl ?_
    refine x_c rfl ?_
    refine x_reti rfl (Nat.le_of_ble_eq_true rfl) (Nat.le_of_ble_eq_true rfl) rfl ?_
    exact ⟨by rw [ht], F', A', L', _, np', nm', nc', nt', ns', nh', v', rfl, hv, hS, fun _ => pk_uLs⟩
theorem l_ridges {x : Int32} {o : Nat → Int64} {m : Nat → Int32} {RA : Nat → Nat → Int32} {RB : Nat → Nat → Int64} (hK : KI F A f np nm v) (hR : RS F A f 6 np nm nc nt ns nh) (hI : IV f np nm nc nt ns nh) (hn : w.1 = N0) : Ev g (d + 4) 303 [.ref 0, .int x, .ref 1438] (lW w o F A L m f RA RB) (wQ w F A m f RA RB (f) v (if okN x np = true then 0 else 1) ((if okN x np = true then ridF f (cN x) else 0).toInt64)) noX := by
  have hf : ¬ ((if okN x np = true then 0 else 1) : Int32) = 0 → (f) = f := fun _ => rfl
  refine ev_L_ridges ?_ (Nat.le_of_ble_eq_true rfl)
  refine x_lo (lo' := [some (.ref 0), some (.int x), some (.ref 1438), none]) rfl ?_
  refine x_al rfl rfl ?_
  refine x_c rfl ?_
  refine x_al rfl rfl ?_
  refine x_il rfl rfl ?_
  refine x_invH (as := [.ref 0, .int x]) rfl rfl rfl (Nat.le_of_ble_eq_true rfl) (Or.inl hn) (rcv_at (cw_fs (w := rW (aUp w 1438 (oE o)) m f RA RB) sp_0 hn) (by decide) (by decide)) (Nat.le_of_ble_eq_true rfl) (Nat.le_of_ble_eq_true rfl) (c_ridges (w := rW (aUp w 1438 (oE o)) m f RA RB) hK hR hI hn) (fun v9 w9 hq => ?_) (fun E w9 hx => ?_)
  rotate_left
  · obtain ⟨rfl, ⟨h9, rfl⟩ | ⟨h9, rfl⟩⟩ := hx
    · refine ⟨8, _, _, _, by decide +kernel, rfl, (Nat.le_of_ble_eq_true rfl), ?_⟩
      refine x_c rfl ?_
      refine x_reti rfl (Nat.le_of_ble_eq_true rfl) (Nat.le_of_ble_eq_true rfl) rfl ?_
      exact wq_x hK hR hI h9.symm (by rw [h9]; decide) hf
    · exfalso
      revert h9
      split <;> first | decide | (split <;> decide)
  · obtain ⟨ht, rfl, F', A', L', np', nm', nc', nt', ns', nh', v', rfl, hv, hS⟩ := hq
    refine x_i2l rfl ?_
    refine x_lasN (j := 0) rfl (lW_at (w := w) (o := o) (F := F') (A := A') (L := L') (m := m) (f := f) (RA := RA) (RB := RB) hn) (by omega) ?_
    rw [show aUp (cW (rW (aUp w 1438 (oE o)) m f RA RB) F' A' L') 1438 (.inl (1, 1, .inr (.inl (vp_updL o 0 _)))) = lW w (vp_updL o 0 _) F' A' L' m f RA RB from lW_o]
    refine x_go rfl ?_
    refine x_c rfl ?_
    refine x_reti rfl (Nat.le_of_ble_eq_true rfl) (Nat.le_of_ble_eq_true rfl) rfl ?_
    exact ⟨by rw [ht], F', A', L', _, np', nm', nc', nt', ns', nh', v', rfl, hv, hS, fun _ => pk_uLs⟩
theorem l_point {p0 x y k h : Int32} {o : Nat → Int64} {m : Nat → Int32} {RA : Nat → Nat → Int32} {RB : Nat → Nat → Int64} (hK : KI F A f np nm v) (hR : RS F A f 6 np nm nc nt ns nh) (hI : IV f np nm nc nt ns nh) (hv : v + 1 < 2 ^ 30) (hn : w.1 = N0) : Ev g (d + 5) 304 [.ref 0, .int p0, .int x, .int y, .int k, .int h, .ref 1438] (lW w o F A L m f RA RB) (wQ w F A m f RA RB (if okN p0 np = true ∧ ptB x y k h = true ∧ ¬ f (5 + 97 * cN p0 + 64) = 8 then addF f (5 + 97 * cN p0 + 64) (cN (f (5 + 97 * cN p0 + 64))) x y k h else f) v (if okN p0 np = true then (if ptB x y k h = true then 0 else 2) else 1) ((if okN p0 np = true ∧ ptB x y k h = true then (if f (5 + 97 * cN p0 + 64) = 8 then -1 else f (5 + 97 * cN p0 + 64)) else 0).toInt64)) noX := by
  have hf : ¬ ((if okN p0 np = true then (if ptB x y k h = true then 0 else 2) else 1) : Int32) = 0 → (if okN p0 np = true ∧ ptB x y k h = true ∧ ¬ f (5 + 97 * cN p0 + 64) = 8 then addF f (5 + 97 * cN p0 + 64) (cN (f (5 + 97 * cN p0 + 64))) x y k h else f) = f := fun h => if_neg (fun h2 => h (by simp [h2]))
  refine ev_L_point ?_ (Nat.le_of_ble_eq_true rfl)
  refine x_lo (lo' := [some (.ref 0), some (.int p0), some (.int x), some (.int y), some (.int k), some (.int h), some (.ref 1438), none]) rfl ?_
  refine x_al rfl rfl ?_
  refine x_c rfl ?_
  refine x_al rfl rfl ?_
  refine x_il rfl rfl ?_
  refine x_il rfl rfl ?_
  refine x_il rfl rfl ?_
  refine x_il rfl rfl ?_
  refine x_il rfl rfl ?_
  refine x_invH (as := [.ref 0, .int p0, .int x, .int y, .int k, .int h]) rfl rfl rfl (Nat.le_of_ble_eq_true rfl) (Or.inl hn) (rcv_at (cw_fs (w := rW (aUp w 1438 (oE o)) m f RA RB) sp_0 hn) (by decide) (by decide)) (Nat.le_of_ble_eq_true rfl) (Nat.le_of_ble_eq_true rfl) (c_point (w := rW (aUp w 1438 (oE o)) m f RA RB) hK hR hI hv hn) (fun v9 w9 hq => ?_) (fun E w9 hx => ?_)
  rotate_left
  · obtain ⟨rfl, ⟨h9, rfl⟩ | ⟨h9, rfl⟩⟩ := hx
    · refine ⟨12, _, _, _, by decide +kernel, rfl, (Nat.le_of_ble_eq_true rfl), ?_⟩
      refine x_c rfl ?_
      refine x_reti rfl (Nat.le_of_ble_eq_true rfl) (Nat.le_of_ble_eq_true rfl) rfl ?_
      exact wq_x hK hR hI h9.symm (by rw [h9]; decide) hf
    · refine ⟨15, _, _, _, by decide +kernel, rfl, (Nat.le_of_ble_eq_true rfl), ?_⟩
      refine x_c rfl ?_
      refine x_reti rfl (Nat.le_of_ble_eq_true rfl) (Nat.le_of_ble_eq_true rfl) rfl ?_
      exact wq_x hK hR hI h9.symm (by rw [h9]; decide) hf
  · obtain ⟨ht, rfl, F', A', L', np', nm', nc', nt', ns', nh', v', rfl, hv, hS⟩ := hq
    refine x_i2l rfl ?_
    refine x_lasN (j := 0) rfl (lW_at (w := w) (o := o) (F := F') (A := A') (L := L') (m := m) (f := f) (RA := RA) (RB := RB) hn) (by omega) ?_
    rw [show aUp (cW (rW (aUp w 1438 (oE o)) m f RA RB) F' A' L') 1438 (.inl (1, 1, .inr (.inl (vp_updL o 0 _)))) = lW w (vp_updL o 0 _) F' A' L' m f RA RB from lW_o]
    refine x_go rfl ?_
    refine x_c rfl ?_
    refine x_reti rfl (Nat.le_of_ble_eq_true rfl) (Nat.le_of_ble_eq_true rfl) rfl ?_
    exact ⟨by rw [ht], F', A', L', _, np', nm', nc', nt', ns', nh', v', rfl, hv, hS, fun _ => pk_uLs⟩
theorem l_mark {x0 y0 x1 y1 : Int32} {gr : Bool} {o : Nat → Int64} {m : Nat → Int32} {RA : Nat → Nat → Int32} {RB : Nat → Nat → Int64} (hK : KI F A f np nm v) (hR : RS F A f 6 np nm nc nt ns nh) (hI : IV f np nm nc nt ns nh) (hn : w.1 = N0) : Ev g (d + 4) 305 [.ref 0, .int x0, .int y0, .int x1, .int y1, .int (bI gr), .ref 1438] (lW w o F A L m f RA RB) (wQ w F A m f RA RB (if (spB x0 x1 = true ∧ spB y0 y1 = true) ∧ ¬ nm = 20 then markF f nm x0 y0 x1 y1 gr else f) v (if spB x0 x1 = true ∧ spB y0 y1 = true then (if nm = 20 then 2 else 0) else 1) ((if (spB x0 x1 = true ∧ spB y0 y1 = true) ∧ ¬ nm = 20 then nI nm else 0).toInt64)) noX := by
  have hf : ¬ ((if spB x0 x1 = true ∧ spB y0 y1 = true then (if nm = 20 then 2 else 0) else 1) : Int32) = 0 → (if (spB x0 x1 = true ∧ spB y0 y1 = true) ∧ ¬ nm = 20 then markF f nm x0 y0 x1 y1 gr else f) = f := fun h => if_neg (fun h2 => h (by simp [h2]))
  refine ev_L_mark ?_ (Nat.le_of_ble_eq_true rfl)
  refine x_lo (lo' := [some (.ref 0), some (.int x0), some (.int y0), some (.int x1), some (.int y1), some (.int (bI gr)), some (.ref 1438), none]) rfl ?_
  refine x_al rfl rfl ?_
  refine x_c rfl ?_
  refine x_al rfl rfl ?_
  refine x_il rfl rfl ?_
  refine x_il rfl rfl ?_
  refine x_il rfl rfl ?_
  refine x_il rfl rfl ?_
  refine x_il rfl rfl ?_
  refine x_invH (as := [.ref 0, .int x0, .int y0, .int x1, .int y1, .int (bI gr)]) rfl rfl rfl (Nat.le_of_ble_eq_true rfl) (Or.inl hn) (rcv_at (cw_fs (w := rW (aUp w 1438 (oE o)) m f RA RB) sp_0 hn) (by decide) (by decide)) (Nat.le_of_ble_eq_true rfl) (Nat.le_of_ble_eq_true rfl) (c_mark (w := rW (aUp w 1438 (oE o)) m f RA RB) hK hR hI hn) (fun v9 w9 hq => ?_) (fun E w9 hx => ?_)
  rotate_left
  · obtain ⟨rfl, ⟨h9, rfl⟩ | ⟨h9, rfl⟩⟩ := hx
    · refine ⟨12, _, _, _, by decide +kernel, rfl, (Nat.le_of_ble_eq_true rfl), ?_⟩
      refine x_c rfl ?_
      refine x_reti rfl (Nat.le_of_ble_eq_true rfl) (Nat.le_of_ble_eq_true rfl) rfl ?_
      exact wq_x hK hR hI h9.symm (by rw [h9]; decide) hf
    · refine ⟨15, _, _, _, by decide +kernel, rfl, (Nat.le_of_ble_eq_true rfl), ?_⟩
      refine x_c rfl ?_
      refine x_reti rfl (Nat.le_of_ble_eq_true rfl) (Nat.le_of_ble_eq_true rfl) rfl ?_
      exact wq_x hK hR hI h9.symm (by rw [h9]; decide) hf
  · obtain ⟨ht, rfl, F', A', L', np', nm', nc', nt', ns', nh', v', rfl, hv, hS⟩ := hq
    refine x_i2l rfl ?_
    refine x_lasN (j := 0) rfl (lW_at (w := w) (o := o) (F := F') (A := A') (L := L') (m := m) (f := f) (RA := RA) (RB := RB) hn) (by omega) ?_
    rw [show aUp (cW (rW (aUp w 1438 (oE o)) m f RA RB) F' A' L') 1438 (.inl (1, 1, .inr (.inl (vp_updL o 0 _)))) = lW w (vp_updL o 0 _) F' A' L' m f RA RB from lW_o]
    refine x_go rfl ?_
    refine x_c rfl ?_
    refine x_reti rfl (Nat.le_of_ble_eq_true rfl) (Nat.le_of_ble_eq_true rfl) rfl ?_
    exact ⟨by rw [ht], F', A', L', _, np', nm', nc', nt', ns', nh', v', rfl, hv, hS, fun _ => pk_uLs⟩
theorem l_spot {p0 x y k h : Int32} {o : Nat → Int64} {m : Nat → Int32} {RA : Nat → Nat → Int32} {RB : Nat → Nat → Int64} (hK : KI F A f np nm v) (hR : RS F A f 6 np nm nc nt ns nh) (hI : IV f np nm nc nt ns nh) (hv : v + 1 < 2 ^ 30) (hn : w.1 = N0) : Ev g (d + 5) 306 [.ref 0, .int p0, .int x, .int y, .int k, .int h, .ref 1438] (lW w o F A L m f RA RB) (wQ w F A m f RA RB (if okN p0 nm = true ∧ ptB x y k h = true ∧ ¬ f (5826 + 39 * cN p0 + 6) = 8 then addF f (5826 + 39 * cN p0 + 6) (cN (f (5826 + 39 * cN p0 + 6))) x y k h else f) v (if okN p0 nm = true then (if ptB x y k h = true then 0 else 2) else 1) ((if okN p0 nm = true ∧ ptB x y k h = true then (if f (5826 + 39 * cN p0 + 6) = 8 then -1 else f (5826 + 39 * cN p0 + 6)) else 0).toInt64)) noX := by
  have hf : ¬ ((if okN p0 nm = true then (if ptB x y k h = true then 0 else 2) else 1) : Int32) = 0 → (if okN p0 nm = true ∧ ptB x y k h = true ∧ ¬ f (5826 + 39 * cN p0 + 6) = 8 then addF f (5826 + 39 * cN p0 + 6) (cN (f (5826 + 39 * cN p0 + 6))) x y k h else f) = f := fun h => if_neg (fun h2 => h (by simp [h2]))
  refine ev_L_spot ?_ (Nat.le_of_ble_eq_true rfl)
  refine x_lo (lo' := [some (.ref 0), some (.int p0), some (.int x), some (.int y), some (.int k), some (.int h), some (.ref 1438), none]) rfl ?_
  refine x_al rfl rfl ?_
  refine x_c rfl ?_
  refine x_al rfl rfl ?_
  refine x_il rfl rfl ?_
  refine x_il rfl rfl ?_
  refine x_il rfl rfl ?_
  refine x_il rfl rfl ?_
  refine x_il rfl rfl ?_
  refine x_invH (as := [.ref 0, .int p0, .int x, .int y, .int k, .int h]) rfl rfl rfl (Nat.le_of_ble_eq_true rfl) (Or.inl hn) (rcv_at (cw_fs (w := rW (aUp w 1438 (oE o)) m f RA RB) sp_0 hn) (by decide) (by decide)) (Nat.le_of_ble_eq_true rfl) (Nat.le_of_ble_eq_true rfl) (c_spot (w := rW (aUp w 1438 (oE o)) m f RA RB) hK hR hI hv hn) (fun v9 w9 hq => ?_) (fun E w9 hx => ?_)
  rotate_left
  · obtain ⟨rfl, ⟨h9, rfl⟩ | ⟨h9, rfl⟩⟩ := hx
    · refine ⟨12, _, _, _, by decide +kernel, rfl, (Nat.le_of_ble_eq_true rfl), ?_⟩
      refine x_c rfl ?_
      refine x_reti rfl (Nat.le_of_ble_eq_true rfl) (Nat.le_of_ble_eq_true rfl) rfl ?_
      exact wq_x hK hR hI h9.symm (by rw [h9]; decide) hf
    · refine ⟨15, _, _, _, by decide +kernel, rfl, (Nat.le_of_ble_eq_true rfl), ?_⟩
      refine x_c rfl ?_
      refine x_reti rfl (Nat.le_of_ble_eq_true rfl) (Nat.le_of_ble_eq_true rfl) rfl ?_
      exact wq_x hK hR hI h9.symm (by rw [h9]; decide) hf
  · obtain ⟨ht, rfl, F', A', L', np', nm', nc', nt', ns', nh', v', rfl, hv, hS⟩ := hq
    refine x_i2l rfl ?_
    refine x_lasN (j := 0) rfl (lW_at (w := w) (o := o) (F := F') (A := A') (L := L') (m := m) (f := f) (RA := RA) (RB := RB) hn) (by omega) ?_
    rw [show aUp (cW (rW (aUp w 1438 (oE o)) m f RA RB) F' A' L') 1438 (.inl (1, 1, .inr (.inl (vp_updL o 0 _)))) = lW w (vp_updL o 0 _) F' A' L' m f RA RB from lW_o]
    refine x_go rfl ?_
    refine x_c rfl ?_
    refine x_reti rfl (Nat.le_of_ble_eq_true rfl) (Nat.le_of_ble_eq_true rfl) rfl ?_
    exact ⟨by rw [ht], F', A', L', _, np', nm', nc', nt', ns', nh', v', rfl, hv, hS, fun _ => pk_uLs⟩
theorem l_slack {x : Int32} {o : Nat → Int64} {m : Nat → Int32} {RA : Nat → Nat → Int32} {RB : Nat → Nat → Int64} (hK : KI F A f np nm v) (hR : RS F A f 6 np nm nc nt ns nh) (hI : IV f np nm nc nt ns nh) (hv : v + 1 < 2 ^ 30) (hn : w.1 = N0) : Ev g (d + 3) 307 [.ref 0, .int x] (lW w o F A L m f RA RB) (wV w F A m f RA RB (if okN x 9 = true then upd f 1 x else f) v (if okN x 9 = true then 0 else 1)) noX := by
  have hf : ¬ ((if okN x 9 = true then 0 else 1) : Int32) = 0 → (if okN x 9 = true then upd f 1 x else f) = f := fun h => if_neg (fun h2 => h (by simp [h2]))
  refine ev_L_slack ?_ (Nat.le_of_ble_eq_true rfl)
  refine x_lo (lo' := [some (.ref 0), some (.int x), none]) rfl ?_
  refine x_al rfl rfl ?_
  refine x_il rfl rfl ?_
  refine x_invH (as := [.ref 0, .int x]) rfl rfl rfl (Nat.le_of_ble_eq_true rfl) (Or.inl hn) (rcv_at (cw_fs (w := rW (aUp w 1438 (oE o)) m f RA RB) sp_0 hn) (by decide) (by decide)) (Nat.le_of_ble_eq_true rfl) (Nat.le_of_ble_eq_true rfl) (c_slack (w := rW (aUp w 1438 (oE o)) m f RA RB) hK hR hI hv hn) (fun v9 w9 hq => ?_) (fun E w9 hx => ?_)
  rotate_left
  · obtain ⟨rfl, ⟨h9, rfl⟩ | ⟨h9, rfl⟩⟩ := hx
    · refine ⟨4, _, _, _, by decide +kernel, rfl, (Nat.le_of_ble_eq_true rfl), ?_⟩
      refine x_c rfl ?_
      refine x_reti rfl (Nat.le_of_ble_eq_true rfl) (Nat.le_of_ble_eq_true rfl) rfl ?_
      exact wv_x hK hR hI h9.symm (by rw [h9]; decide) hf
    · exfalso
      revert h9
      split <;> first | decide | (split <;> decide)
  · obtain ⟨ht, rfl, F', A', L', np', nm', nc', nt', ns', nh', v', rfl, hv, hS⟩ := hq
    refine x_go rfl ?_
    refine x_c rfl ?_
    refine x_reti rfl (Nat.le_of_ble_eq_true rfl) (Nat.le_of_ble_eq_true rfl) rfl ?_
    exact ⟨by rw [ht], F', A', L', o, np', nm', nc', nt', ns', nh', v', rfl, hv, hS⟩
theorem l_lay {k p x : Int32} {o : Nat → Int64} {m : Nat → Int32} {RA : Nat → Nat → Int32} {RB : Nat → Nat → Int64} (hK : KI F A f np nm v) (hR : RS F A f 6 np nm nc nt ns nh) (hI : IV f np nm nc nt ns nh) (hn : w.1 = N0) : Ev g (d + 14) 308 [.ref 0, .int k, .int p, .int x, .ref 1438] (lW w o F A L m f RA RB) (wQ w F A m f RA RB (f) v (if okN k nm = true ∧ okN p np = true then (if okN x 5 = true then 0 else 2) else 1) ((if (okN k nm = true ∧ okN p np = true) ∧ okN x 5 = true then layW (layMk f (cN k) (cN p)) x else 0).toInt64)) noX := by
  have hf : ¬ ((if okN k nm = true ∧ okN p np = true then (if okN x 5 = true then 0 else 2) else 1) : Int32) = 0 → (f) = f := fun _ => rfl
  refine ev_L_lay ?_ (Nat.le_of_ble_eq_true rfl)
  refine x_lo (lo' := [some (.ref 0), some (.int k), some (.int p), some (.int x), some (.ref 1438), none]) rfl ?_
  refine x_al rfl rfl ?_
  refine x_c rfl ?_
  refine x_al rfl rfl ?_
  refine x_il rfl rfl ?_
  refine x_il rfl rfl ?_
  refine x_il rfl rfl ?_
  refine x_invH (as := [.ref 0, .int k, .int p, .int x]) rfl rfl rfl (Nat.le_of_ble_eq_true rfl) (Or.inl hn) (rcv_at (cw_fs (w := rW (aUp w 1438 (oE o)) m f RA RB) sp_0 hn) (by decide) (by decide)) (Nat.le_of_ble_eq_true rfl) (Nat.le_of_ble_eq_true rfl) (c_lay (w := rW (aUp w 1438 (oE o)) m f RA RB) hK hR hI hn) (fun v9 w9 hq => ?_) (fun E w9 hx => ?_)
  rotate_left
  · obtain ⟨rfl, ⟨h9, rfl⟩ | ⟨h9, rfl⟩⟩ := hx
    · refine ⟨10, _, _, _, by decide +kernel, rfl, (Nat.le_of_ble_eq_true rfl), ?_⟩
      refine x_c rfl ?_
      refine x_reti rfl (Nat.le_of_ble_eq_true rfl) (Nat.le_of_ble_eq_true rfl) rfl ?_
      exact wq_x hK hR hI h9.symm (by rw [h9]; decide) hf
    · refine ⟨13, _, _, _, by decide +kernel, rfl, (Nat.le_of_ble_eq_true rfl), ?_⟩
      refine x_c rfl ?_
      refine x_reti rfl (Nat.le_of_ble_eq_true rfl) (Nat.le_of_ble_eq_true rfl) rfl ?_
      exact wq_x hK hR hI h9.symm (by rw [h9]; decide) hf
  · obtain ⟨ht, rfl, F', A', L', np', nm', nc', nt', ns', nh', v', rfl, hv, hS⟩ := hq
    refine x_i2l rfl ?_
    refine x_lasN (j := 0) rfl (lW_at (w := w) (o := o) (F := F') (A := A') (L := L') (m := m) (f := f) (RA := RA) (RB := RB) hn) (by omega) ?_
    rw [show aUp (cW (rW (aUp w 1438 (oE o)) m f RA RB) F' A' L') 1438 (.inl (1, 1, .inr (.inl (vp_updL o 0 _)))) = lW w (vp_updL o 0 _) F' A' L' m f RA RB from lW_o]
    refine x_go rfl ?_
    refine x_c rfl ?_
    refine x_reti rfl (Nat.le_of_ble_eq_true rfl) (Nat.le_of_ble_eq_true rfl) rfl ?_
    exact ⟨by rw [ht], F', A', L', _, np', nm', nc', nt', ns', nh', v', rfl, hv, hS, fun _ => pk_uLs⟩
theorem l_card {x : Int32} {o : Nat → Int64} {m : Nat → Int32} {RA : Nat → Nat → Int32} {RB : Nat → Nat → Int64} (hK : KI F A f np nm v) (hR : RS F A f 6 np nm nc nt ns nh) (hI : IV f np nm nc nt ns nh) (hn : w.1 = N0) : Ev g (d + 4) 309 [.ref 0, .int x, .ref 1438] (lW w o F A L m f RA RB) (wQ w F A m f RA RB (if okN x 10000 = true ∧ ¬ nc = 16 then cardF f nc x else f) v (if okN x 10000 = true then (if nc = 16 then 2 else 0) else 1) ((if okN x 10000 = true ∧ ¬ nc = 16 then nI nc else 0).toInt64)) noX := by
  have hf : ¬ ((if okN x 10000 = true then (if nc = 16 then 2 else 0) else 1) : Int32) = 0 → (if okN x 10000 = true ∧ ¬ nc = 16 then cardF f nc x else f) = f := fun h => if_neg (fun h2 => h (by simp [h2]))
  refine ev_L_card ?_ (Nat.le_of_ble_eq_true rfl)
  refine x_lo (lo' := [some (.ref 0), some (.int x), some (.ref 1438), none]) rfl ?_
  refine x_al rfl rfl ?_
  refine x_c rfl ?_
  refine x_al rfl rfl ?_
  refine x_il rfl rfl ?_
  refine x_invH (as := [.ref 0, .int x]) rfl rfl rfl (Nat.le_of_ble_eq_true rfl) (Or.inl hn) (rcv_at (cw_fs (w := rW (aUp w 1438 (oE o)) m f RA RB) sp_0 hn) (by decide) (by decide)) (Nat.le_of_ble_eq_true rfl) (Nat.le_of_ble_eq_true rfl) (c_card (w := rW (aUp w 1438 (oE o)) m f RA RB) hK hR hI hn) (fun v9 w9 hq => ?_) (fun E w9 hx => ?_)
  rotate_left
  · obtain ⟨rfl, ⟨h9, rfl⟩ | ⟨h9, rfl⟩⟩ := hx
    · refine ⟨8, _, _, _, by decide +kernel, rfl, (Nat.le_of_ble_eq_true rfl), ?_⟩
      refine x_c rfl ?_
      refine x_reti rfl (Nat.le_of_ble_eq_true rfl) (Nat.le_of_ble_eq_true rfl) rfl ?_
      exact wq_x hK hR hI h9.symm (by rw [h9]; decide) hf
    · refine ⟨11, _, _, _, by decide +kernel, rfl, (Nat.le_of_ble_eq_true rfl), ?_⟩
      refine x_c rfl ?_
      refine x_reti rfl (Nat.le_of_ble_eq_true rfl) (Nat.le_of_ble_eq_true rfl) rfl ?_
      exact wq_x hK hR hI h9.symm (by rw [h9]; decide) hf
  · obtain ⟨ht, rfl, F', A', L', np', nm', nc', nt', ns', nh', v', rfl, hv, hS⟩ := hq
    refine x_i2l rfl ?_
    refine x_lasN (j := 0) rfl (lW_at (w := w) (o := o) (F := F') (A := A') (L := L') (m := m) (f := f) (RA := RA) (RB := RB) hn) (by omega) ?_
    rw [show aUp (cW (rW (aUp w 1438 (oE o)) m f RA RB) F' A' L') 1438 (.inl (1, 1, .inr (.inl (vp_updL o 0 _)))) = lW w (vp_updL o 0 _) F' A' L' m f RA RB from lW_o]
    refine x_go rfl ?_
    refine x_c rfl ?_
    refine x_reti rfl (Nat.le_of_ble_eq_true rfl) (Nat.le_of_ble_eq_true rfl) rfl ?_
    exact ⟨by rw [ht], F', A', L', _, np', nm', nc', nt', ns', nh', v', rfl, hv, hS, fun _ => pk_uLs⟩
theorem l_finger {x y z : Int32} {o : Nat → Int64} {m : Nat → Int32} {RA : Nat → Nat → Int32} {RB : Nat → Nat → Int64} (hK : KI F A f np nm v) (hR : RS F A f 6 np nm nc nt ns nh) (hI : IV f np nm nc nt ns nh) (hn : w.1 = N0) : Ev g (d + 5) 310 [.ref 0, .int x, .int y, .int z, .ref 1438] (lW w o F A L m f RA RB) (wQ w F A m f RA RB (if fgP x y z nc np ∧ ¬ f (6607 + 26 * cN x + (6 + cN y)) = z then fingF f (cN x) (cN y) z else f) v (if fgP x y z nc np then 0 else 1) (if fgP x y z nc np ∧ ¬ f (6607 + 26 * cN x + (6 + cN y)) = z then 1 else 0)) noX := by
  have hf : ¬ ((if fgP x y z nc np then 0 else 1) : Int32) = 0 → (if fgP x y z nc np ∧ ¬ f (6607 + 26 * cN x + (6 + cN y)) = z then fingF f (cN x) (cN y) z else f) = f := fun h => if_neg (fun h2 => h (by simp [h2]))
  refine ev_L_finger ?_ (Nat.le_of_ble_eq_true rfl)
  refine x_lo (lo' := [some (.ref 0), some (.int x), some (.int y), some (.int z), some (.ref 1438), none]) rfl ?_
  refine x_al rfl rfl ?_
  refine x_c rfl ?_
  refine x_al rfl rfl ?_
  refine x_il rfl rfl ?_
  refine x_il rfl rfl ?_
  refine x_il rfl rfl ?_
  refine x_invH (as := [.ref 0, .int x, .int y, .int z]) rfl rfl rfl (Nat.le_of_ble_eq_true rfl) (Or.inl hn) (rcv_at (cw_fs (w := rW (aUp w 1438 (oE o)) m f RA RB) sp_0 hn) (by decide) (by decide)) (Nat.le_of_ble_eq_true rfl) (Nat.le_of_ble_eq_true rfl) (c_finger (w := rW (aUp w 1438 (oE o)) m f RA RB) hK hR hI hn) (fun v9 w9 hq => ?_) (fun E w9 hx => ?_)
  rotate_left
  · obtain ⟨rfl, ⟨h9, rfl⟩ | ⟨h9, rfl⟩⟩ := hx
    · refine ⟨13, _, _, _, by decide +kernel, rfl, (Nat.le_of_ble_eq_true rfl), ?_⟩
      refine x_c rfl ?_
      refine x_reti rfl (Nat.le_of_ble_eq_true rfl) (Nat.le_of_ble_eq_true rfl) rfl ?_
      exact wq_x hK hR hI h9.symm (by rw [h9]; decide) hf
    · exfalso
      revert h9
      split <;> first | decide | (split <;> decide)
  · obtain ⟨ht, rfl, F', A', L', np', nm', nc', nt', ns', nh', v', rfl, hv, hS⟩ := hq
    refine x_ifeqB rfl (fun c9 => ?_) (fun c9 => ?_)
    · skip
      refine x_c rfl ?_
      refine x_lasN (j := 0) rfl (lW_at (w := w) (o := o) (F := F') (A := A') (L := L') (m := m) (f := f) (RA := RA) (RB := RB) hn) (by omega) ?_
      rw [show aUp (cW (rW (aUp w 1438 (oE o)) m f RA RB) F' A' L') 1438 (.inl (1, 1, .inr (.inl (vp_updL o 0 _)))) = lW w (vp_updL o 0 _) F' A' L' m f RA RB from lW_o]
      refine x_go rfl ?_
      refine x_c rfl ?_
      refine x_reti rfl (Nat.le_of_ble_eq_true rfl) (Nat.le_of_ble_eq_true rfl) rfl ?_
      exact ⟨by rw [ht], F', A', L', _, np', nm', nc', nt', ns', nh', v', rfl, hv, hS, fun _ => pk_uLs.trans (if_neg c9).symm⟩
    · skip
      refine x_c rfl ?_
      refine x_go rfl ?_
      refine x_lasN (j := 0) rfl (lW_at (w := w) (o := o) (F := F') (A := A') (L := L') (m := m) (f := f) (RA := RA) (RB := RB) hn) (by omega) ?_
      rw [show aUp (cW (rW (aUp w 1438 (oE o)) m f RA RB) F' A' L') 1438 (.inl (1, 1, .inr (.inl (vp_updL o 0 _)))) = lW w (vp_updL o 0 _) F' A' L' m f RA RB from lW_o]
      refine x_go rfl ?_
      refine x_c rfl ?_
      refine x_reti rfl (Nat.le_of_ble_eq_true rfl) (Nat.le_of_ble_eq_true rfl) rfl ?_
      exact ⟨by rw [ht], F', A', L', _, np', nm', nc', nt', ns', nh', v', rfl, hv, hS, fun _ => pk_uLs.trans (if_pos c9).symm⟩
theorem l_doubt {x y z : Int32} {o : Nat → Int64} {m : Nat → Int32} {RA : Nat → Nat → Int32} {RB : Nat → Nat → Int64} (hK : KI F A f np nm v) (hR : RS F A f 6 np nm nc nt ns nh) (hI : IV f np nm nc nt ns nh) (hn : w.1 = N0) : Ev g (d + 5) 311 [.ref 0, .int x, .int y, .int z, .ref 1438] (lW w o F A L m f RA RB) (wQ w F A m f RA RB (if (okN x nc = true ∧ okN y 10 = true) ∧ ((-1 ≤ z ∧ z ≤ 7) ∧ ¬ othN f (cN x) (cN y) 10 = 4) then upd f (6607 + 26 * cN x + (16 + cN y)) z else f) v (if okN x nc = true ∧ okN y 10 = true then (if -1 ≤ z ∧ z ≤ 7 then 0 else 2) else 1) (if (okN x nc = true ∧ okN y 10 = true) ∧ ((-1 ≤ z ∧ z ≤ 7) ∧ ¬ othN f (cN x) (cN y) 10 = 4) then 1 else 0)) noX := by
  have hf : ¬ ((if okN x nc = true ∧ okN y 10 = true then (if -1 ≤ z ∧ z ≤ 7 then 0 else 2) else 1) : Int32) = 0 → (if (okN x nc = true ∧ okN y 10 = true) ∧ ((-1 ≤ z ∧ z ≤ 7) ∧ ¬ othN f (cN x) (cN y) 10 = 4) then upd f (6607 + 26 * cN x + (16 + cN y)) z else f) = f := fun h => if_neg (fun h2 => h (by simp [h2]))
  refine ev_L_doubt ?_ (Nat.le_of_ble_eq_true rfl)
  refine x_lo (lo' := [some (.ref 0), some (.int x), some (.int y), some (.int z), some (.ref 1438), none]) rfl ?_
  refine x_al rfl rfl ?_
  refine x_c rfl ?_
  refine x_al rfl rfl ?_
  refine x_il rfl rfl ?_
  refine x_il rfl rfl ?_
  refine x_il rfl rfl ?_
  refine x_invH (as := [.ref 0, .int x, .int y, .int z]) rfl rfl rfl (Nat.le_of_ble_eq_true rfl) (Or.inl hn) (rcv_at (cw_fs (w := rW (aUp w 1438 (oE o)) m f RA RB) sp_0 hn) (by decide) (by decide)) (Nat.le_of_ble_eq_true rfl) (Nat.le_of_ble_eq_true rfl) (c_doubt (w := rW (aUp w 1438 (oE o)) m f RA RB) hK hR hI hn) (fun v9 w9 hq => ?_) (fun E w9 hx => ?_)
  rotate_left
  · obtain ⟨rfl, ⟨h9, rfl⟩ | ⟨h9, rfl⟩⟩ := hx
    · refine ⟨13, _, _, _, by decide +kernel, rfl, (Nat.le_of_ble_eq_true rfl), ?_⟩
      refine x_c rfl ?_
      refine x_reti rfl (Nat.le_of_ble_eq_true rfl) (Nat.le_of_ble_eq_true rfl) rfl ?_
      exact wq_x hK hR hI h9.symm (by rw [h9]; decide) hf
    · refine ⟨16, _, _, _, by decide +kernel, rfl, (Nat.le_of_ble_eq_true rfl), ?_⟩
      refine x_c rfl ?_
      refine x_reti rfl (Nat.le_of_ble_eq_true rfl) (Nat.le_of_ble_eq_true rfl) rfl ?_
      exact wq_x hK hR hI h9.symm (by rw [h9]; decide) hf
  · obtain ⟨ht, rfl, F', A', L', np', nm', nc', nt', ns', nh', v', rfl, hv, hS⟩ := hq
    refine x_ifeqB rfl (fun c9 => ?_) (fun c9 => ?_)
    · skip
      refine x_c rfl ?_
      refine x_lasN (j := 0) rfl (lW_at (w := w) (o := o) (F := F') (A := A') (L := L') (m := m) (f := f) (RA := RA) (RB := RB) hn) (by omega) ?_
      rw [show aUp (cW (rW (aUp w 1438 (oE o)) m f RA RB) F' A' L') 1438 (.inl (1, 1, .inr (.inl (vp_updL o 0 _)))) = lW w (vp_updL o 0 _) F' A' L' m f RA RB from lW_o]
      refine x_go rfl ?_
      refine x_c rfl ?_
      refine x_reti rfl (Nat.le_of_ble_eq_true rfl) (Nat.le_of_ble_eq_true rfl) rfl ?_
      exact ⟨by rw [ht], F', A', L', _, np', nm', nc', nt', ns', nh', v', rfl, hv, hS, fun _ => pk_uLs.trans (if_neg c9).symm⟩
    · skip
      refine x_c rfl ?_
      refine x_go rfl ?_
      refine x_lasN (j := 0) rfl (lW_at (w := w) (o := o) (F := F') (A := A') (L := L') (m := m) (f := f) (RA := RA) (RB := RB) hn) (by omega) ?_
      rw [show aUp (cW (rW (aUp w 1438 (oE o)) m f RA RB) F' A' L') 1438 (.inl (1, 1, .inr (.inl (vp_updL o 0 _)))) = lW w (vp_updL o 0 _) F' A' L' m f RA RB from lW_o]
      refine x_go rfl ?_
      refine x_c rfl ?_
      refine x_reti rfl (Nat.le_of_ble_eq_true rfl) (Nat.le_of_ble_eq_true rfl) rfl ?_
      exact ⟨by rw [ht], F', A', L', _, np', nm', nc', nt', ns', nh', v', rfl, hv, hS, fun _ => pk_uLs.trans (if_pos c9).symm⟩
theorem l_kind {x y : Int32} {o : Nat → Int64} {m : Nat → Int32} {RA : Nat → Nat → Int32} {RB : Nat → Nat → Int64} (hK : KI F A f np nm v) (hR : RS F A f 6 np nm nc nt ns nh) (hI : IV f np nm nc nt ns nh) (hn : w.1 = N0) : Ev g (d + 6) 312 [.ref 0, .int x, .int y, .ref 1438] (lW w o F A L m f RA RB) (wQ w F A m f RA RB (f) v (if okN x nc = true ∧ okN y 10 = true then 0 else 1) ((if okN x nc = true ∧ okN y 10 = true then clC f (cN x) (cN y) 0 else 0).toInt64)) noX := by
  have hf : ¬ ((if okN x nc = true ∧ okN y 10 = true then 0 else 1) : Int32) = 0 → (f) = f := fun _ => rfl
  refine ev_L_kind ?_ (Nat.le_of_ble_eq_true rfl)
  refine x_lo (lo' := [some (.ref 0), some (.int x), some (.int y), some (.ref 1438), none]) rfl ?_
  refine x_al rfl rfl ?_
  refine x_c rfl ?_
  refine x_al rfl rfl ?_
  refine x_il rfl rfl ?_
  refine x_il rfl rfl ?_
  refine x_invH (as := [.ref 0, .int x, .int y]) rfl rfl rfl (Nat.le_of_ble_eq_true rfl) (Or.inl hn) (rcv_at (cw_fs (w := rW (aUp w 1438 (oE o)) m f RA RB) sp_0 hn) (by decide) (by decide)) (Nat.le_of_ble_eq_true rfl) (Nat.le_of_ble_eq_true rfl) (c_kind (w := rW (aUp w 1438 (oE o)) m f RA RB) hK hR hI hn) (fun v9 w9 hq => ?_) (fun E w9 hx => ?_)
  rotate_left
  · obtain ⟨rfl, ⟨h9, rfl⟩ | ⟨h9, rfl⟩⟩ := hx
    · refine ⟨9, _, _, _, by decide +kernel, rfl, (Nat.le_of_ble_eq_true rfl), ?_⟩
      refine x_c rfl ?_
      refine x_reti rfl (Nat.le_of_ble_eq_true rfl) (Nat.le_of_ble_eq_true rfl) rfl ?_
      exact wq_x hK hR hI h9.symm (by rw [h9]; decide) hf
    · exfalso
      revert h9
      split <;> first | decide | (split <;> decide)
  · obtain ⟨ht, rfl, F', A', L', np', nm', nc', nt', ns', nh', v', rfl, hv, hS⟩ := hq
    refine x_i2l rfl ?_
    refine x_lasN (j := 0) rfl (lW_at (w := w) (o := o) (F := F') (A := A') (L := L') (m := m) (f := f) (RA := RA) (RB := RB) hn) (by omega) ?_
    rw [show aUp (cW (rW (aUp w 1438 (oE o)) m f RA RB) F' A' L') 1438 (.inl (1, 1, .inr (.inl (vp_updL o 0 _)))) = lW w (vp_updL o 0 _) F' A' L' m f RA RB from lW_o]
    refine x_go rfl ?_
    refine x_c rfl ?_
    refine x_reti rfl (Nat.le_of_ble_eq_true rfl) (Nat.le_of_ble_eq_true rfl) rfl ?_
    exact ⟨by rw [ht], F', A', L', _, np', nm', nc', nt', ns', nh', v', rfl, hv, hS, fun _ => pk_uLs⟩
theorem l_number {x : Int32} {lo : Bool} {o : Nat → Int64} {m : Nat → Int32} {RA : Nat → Nat → Int32} {RB : Nat → Nat → Int64} (hK : KI F A f np nm v) (hR : RS F A f 6 np nm nc nt ns nh) (hI : IV f np nm nc nt ns nh) (hn : w.1 = N0) : Ev g (d + 7) 313 [.ref 0, .int x, .int (bI lo), .ref 1438] (lW w o F A L m f RA RB) (wQ w F A m f RA RB (f) v (if okN x nc = true then 0 else 1) ((if okN x nc = true then nuC f (cN x) 0 lo 5 else 0).toInt64)) noX := by
  have hf : ¬ ((if okN x nc = true then 0 else 1) : Int32) = 0 → (f) = f := fun _ => rfl
  refine ev_L_number ?_ (Nat.le_of_ble_eq_true rfl)
  refine x_lo (lo' := [some (.ref 0), some (.int x), some (.int (bI lo)), some (.ref 1438), none]) rfl ?_
  refine x_al rfl rfl ?_
  refine x_c rfl ?_
  refine x_al rfl rfl ?_
  refine x_il rfl rfl ?_
  refine x_il rfl rfl ?_
  refine x_invH (as := [.ref 0, .int x, .int (bI lo)]) rfl rfl rfl (Nat.le_of_ble_eq_true rfl) (Or.inl hn) (rcv_at (cw_fs (w := rW (aUp w 1438 (oE o)) m f RA RB) sp_0 hn) (by decide) (by decide)) (Nat.le_of_ble_eq_true rfl) (Nat.le_of_ble_eq_true rfl) (c_number (w := rW (aUp w 1438 (oE o)) m f RA RB) hK hR hI hn) (fun v9 w9 hq => ?_) (fun E w9 hx => ?_)
  rotate_left
  · obtain ⟨rfl, ⟨h9, rfl⟩ | ⟨h9, rfl⟩⟩ := hx
    · refine ⟨9, _, _, _, by decide +kernel, rfl, (Nat.le_of_ble_eq_true rfl), ?_⟩
      refine x_c rfl ?_
      refine x_reti rfl (Nat.le_of_ble_eq_true rfl) (Nat.le_of_ble_eq_true rfl) rfl ?_
      exact wq_x hK hR hI h9.symm (by rw [h9]; decide) hf
    · exfalso
      revert h9
      split <;> first | decide | (split <;> decide)
  · obtain ⟨ht, rfl, F', A', L', np', nm', nc', nt', ns', nh', v', rfl, hv, hS⟩ := hq
    refine x_i2l rfl ?_
    refine x_lasN (j := 0) rfl (lW_at (w := w) (o := o) (F := F') (A := A') (L := L') (m := m) (f := f) (RA := RA) (RB := RB) hn) (by omega) ?_
    rw [show aUp (cW (rW (aUp w 1438 (oE o)) m f RA RB) F' A' L') 1438 (.inl (1, 1, .inr (.inl (vp_updL o 0 _)))) = lW w (vp_updL o 0 _) F' A' L' m f RA RB from lW_o]
    refine x_go rfl ?_
    refine x_c rfl ?_
    refine x_reti rfl (Nat.le_of_ble_eq_true rfl) (Nat.le_of_ble_eq_true rfl) rfl ?_
    exact ⟨by rw [ht], F', A', L', _, np', nm', nc', nt', ns', nh', v', rfl, hv, hS, fun _ => pk_uLs⟩
theorem l_drawers {x : Int32} {row : Nat → Int64} {o : Nat → Int64} {m : Nat → Int32} {RA : Nat → Nat → Int32} {RB : Nat → Nat → Int64} (hK : KI F A f np nm v) (hR : RS F A f 6 np nm nc nt ns nh) (hI : IV f np nm nc nt ns nh) (hn : w.1 = N0) : Ev g (d + 8) 314 [.ref 0, .int x, .ref 1438] (lW w o F A L m f RA RB) (wQ w F A m f RA RB (f) v (if okN x nc = true then 0 else 1) ((if okN x nc = true then nI (readsF f (cN x) row).1 else 0).toInt64)) noX := by
  have hf : ¬ ((if okN x nc = true then 0 else 1) : Int32) = 0 → (f) = f := fun _ => rfl
  refine ev_L_drawers ?_ (Nat.le_of_ble_eq_true rfl)
  refine x_lo (lo' := [some (.ref 0), some (.int x), some (.ref 1438), none]) rfl ?_
  refine x_al rfl rfl ?_
  refine x_c rfl ?_
  refine x_al rfl rfl ?_
  refine x_il rfl rfl ?_
  refine x_invH (as := [.ref 0, .int x]) rfl rfl rfl (Nat.le_of_ble_eq_true rfl) (Or.inl hn) (rcv_at (cw_fs (w := rW (aUp w 1438 (oE o)) m f RA RB) sp_0 hn) (by decide) (by decide)) (Nat.le_of_ble_eq_true rfl) (Nat.le_of_ble_eq_true rfl) (c_drawers (row := row) (w := rW (aUp w 1438 (oE o)) m f RA RB) hK hR hI hn) (fun v9 w9 hq => ?_) (fun E w9 hx => ?_)
  rotate_left
  · obtain ⟨rfl, ⟨h9, rfl⟩ | ⟨h9, rfl⟩⟩ := hx
    · refine ⟨8, _, _, _, by decide +kernel, rfl, (Nat.le_of_ble_eq_true rfl), ?_⟩
      refine x_c rfl ?_
      refine x_reti rfl (Nat.le_of_ble_eq_true rfl) (Nat.le_of_ble_eq_true rfl) rfl ?_
      exact wq_x hK hR hI h9.symm (by rw [h9]; decide) hf
    · exfalso
      revert h9
      split <;> first | decide | (split <;> decide)
  · obtain ⟨ht, rfl, F', A', L', np', nm', nc', nt', ns', nh', v', rfl, hv, hS⟩ := hq
    refine x_i2l rfl ?_
    refine x_lasN (j := 0) rfl (lW_at (w := w) (o := o) (F := F') (A := A') (L := L') (m := m) (f := f) (RA := RA) (RB := RB) hn) (by omega) ?_
    rw [show aUp (cW (rW (aUp w 1438 (oE o)) m f RA RB) F' A' L') 1438 (.inl (1, 1, .inr (.inl (vp_updL o 0 _)))) = lW w (vp_updL o 0 _) F' A' L' m f RA RB from lW_o]
    refine x_go rfl ?_
    refine x_c rfl ?_
    refine x_reti rfl (Nat.le_of_ble_eq_true rfl) (Nat.le_of_ble_eq_true rfl) rfl ?_
    exact ⟨by rw [ht], F', A', L', _, np', nm', nc', nt', ns', nh', v', rfl, hv, hS, fun _ => pk_uLs⟩
end CALLS
