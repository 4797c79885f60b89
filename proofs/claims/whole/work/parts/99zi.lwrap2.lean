/-! further wrappers; cw_ -/
section CALLS
variable {g : aG} {d : Nat} {w : aW} {F A : Nat → Nat → Int32} {L : Nat → Int64} {f : Nat → Int32} {np nm nc nt ns nh v : Nat}
theorem l_like {x n : Int32} {o : Nat → Int64} {m : Nat → Int32} {RA : Nat → Nat → Int32} {RB : Nat → Nat → Int64} (hK : KI F A f np nm v) (hR : RS F A f 6 np nm nc nt ns nh) (hI : IV f np nm nc nt ns nh) (hn : w.1 = N0) : Ev g (d + 9) 315 [.ref 0, .int x, .int n, .ref 1438] (lW w o F A L m f RA RB) (wQ w F A m f RA RB (f) v (if okN x nc = true then 0 else 1) ((if okN x nc = true then likeF f nc (cN x) n 0 0 else 0).toInt64)) noX := by
  have hf : ¬ ((if okN x nc = true then 0 else 1) : Int32) = 0 → (f) = f := fun _ => rfl
  refine ev_L_like ?_ (Nat.le_of_ble_eq_true rfl)
  refine x_lo (lo' := [some (.ref 0), some (.int x), some (.int n), some (.ref 1438), none]) rfl ?_
  refine x_al rfl rfl ?_
  refine x_c rfl ?_
  refine x_al rfl rfl ?_
  refine x_il rfl rfl ?_
  refine x_il rfl rfl ?_
  refine x_invH (as := [.ref 0, .int x, .int n]) rfl rfl rfl (Nat.le_of_ble_eq_true rfl) (Or.inl hn) (rcv_at (cw_fs (w := rW (aUp w 1438 (oE o)) m f RA RB) sp_0 hn) (by decide) (by decide)) (Nat.le_of_ble_eq_true rfl) (Nat.le_of_ble_eq_true rfl) (c_like (w := rW (aUp w 1438 (oE o)) m f RA RB) hK hR hI hn) (fun v9 w9 hq => ?_) (fun E w9 hx => ?_)
  rotate_left
  · obtain ⟨rfl, ⟨h9, rfl⟩ | ⟨h9, rfl⟩⟩ := hx
    · refine ⟨9, _, _, _, by decide +kernel, rfl, (Nat.le_of_ble_eq_true rfl), ?_⟩
      refine x_c rfl ?_
      refine x_reti rfl (Nat.le_of_ble_eq_true rfl) (Nat.le_of_ble_eq_true rfl) rfl ?_
      exact wq_x hK hR hI h9.symm (by rw [h9]; decide) hf
    · exfalso
      revert h9
      split <;> first | decide | (split <;> decide)
  · obtain ⟨ht, rfl, F', A', L', np', nm', nc', nt', ns', nh', v', rfl, hv, hS⟩ := hq
    refine x_i2l rfl ?_
    refine x_lasN (j := 0) rfl (lW_at (w := w) (o := o) (F := F') (A := A') (L := L') (m := m) (f := f) (RA := RA) (RB := RB) hn) (by omega) ?_
    rw [show aUp (cW (rW (aUp w 1438 (oE o)) m f RA RB) F' A' L') 1438 (.inl (1, 1, .inr (.inl (vp_updL o 0 _)))) = lW w (vp_updL o 0 _) F' A' L' m f RA RB from lW_o]
    refine x_go rfl ?_
    refine x_c rfl ?_
    refine x_reti rfl (Nat.le_of_ble_eq_true rfl) (Nat.le_of_ble_eq_true rfl) rfl ?_
    exact ⟨by rw [ht], F', A', L', _, np', nm', nc', nt', ns', nh', v', rfl, hv, hS, fun _ => pk_uLs⟩
theorem l_verdict {x y day : Int32} {o : Nat → Int64} {m : Nat → Int32} {RA : Nat → Nat → Int32} {RB : Nat → Nat → Int64} (hK : KI F A f np nm v) (hR : RS F A f 6 np nm nc nt ns nh) (hI : IV f np nm nc nt ns nh) (hn : w.1 = N0) : Ev g (d + 15) 317 [.ref 0, .int x, .int y, .int day, .ref 1438] (lW w o F A L m f RA RB) (wQ w F A m f RA RB (f) v (if okN x nm = true ∧ okN y np = true then 0 else 1) ((if okN x nm = true ∧ okN y np = true then vM f nt (cN x) (cN y) day else 0).toInt64)) noX := by
  have hf : ¬ ((if okN x nm = true ∧ okN y np = true then 0 else 1) : Int32) = 0 → (f) = f := fun _ => rfl
  refine ev_L_verdict ?_ (Nat.le_of_ble_eq_true rfl)
  refine x_lo (lo' := [some (.ref 0), some (.int x), some (.int y), some (.int day), some (.ref 1438), none]) rfl ?_
  refine x_al rfl rfl ?_
  refine x_c rfl ?_
  refine x_al rfl rfl ?_
  refine x_il rfl rfl ?_
  refine x_il rfl rfl ?_
  refine x_il rfl rfl ?_
  refine x_invH (as := [.ref 0, .int x, .int y, .int day]) rfl rfl rfl (Nat.le_of_ble_eq_true rfl) (Or.inl hn) (rcv_at (cw_fs (w := rW (aUp w 1438 (oE o)) m f RA RB) sp_0 hn) (by decide) (by decide)) (Nat.le_of_ble_eq_true rfl) (Nat.le_of_ble_eq_true rfl) (c_verdict (w := rW (aUp w 1438 (oE o)) m f RA RB) hK hR hI hn) (fun v9 w9 hq => ?_) (fun E w9 hx => ?_)
  rotate_left
  · obtain ⟨rfl, ⟨h9, rfl⟩ | ⟨h9, rfl⟩⟩ := hx
    · refine ⟨10, _, _, _, by decide +kernel, rfl, (Nat.le_of_ble_eq_true rfl), ?_⟩
      refine x_c rfl ?_
      refine x_reti rfl (Nat.le_of_ble_eq_true rfl) (Nat.le_of_ble_eq_true rfl) rfl ?_
      exact wq_x hK hR hI h9.symm (by rw [h9]; decide) hf
    · exfalso
      revert h9
      split <;> first | decide | (split <;> decide)
  · obtain ⟨ht, rfl, F', A', L', np', nm', nc', nt', ns', nh', v', rfl, hv, hS⟩ := hq
    refine x_i2l rfl ?_
    refine x_lasN (j := 0) rfl (lW_at (w := w) (o := o) (F := F') (A := A') (L := L') (m := m) (f := f) (RA := RA) (RB := RB) hn) (by omega) ?_
    rw [show aUp (cW (rW (aUp w 1438 (oE o)) m f RA RB) F' A' L') 1438 (.inl (1, 1, .inr (.inl (vp_updL o 0 _)))) = lW w (vp_updL o 0 _) F' A' L' m f RA RB from lW_o]
    refine x_go rfl ?_
    refine x_c rfl ?_
    refine x_reti rfl (Nat.le_of_ble_eq_true rfl) (Nat.le_of_ble_eq_true rfl) rfl ?_
    exact ⟨by rw [ht], F', A', L', _, np', nm', nc', nt', ns', nh', v', rfl, hv, hS, fun _ => pk_uLs⟩
theorem l_why {x y day : Int32} {o : Nat → Int64} {m : Nat → Int32} {RA : Nat → Nat → Int32} {RB : Nat → Nat → Int64} (hK : KI F A f np nm v) (hR : RS F A f 6 np nm nc nt ns nh) (hI : IV f np nm nc nt ns nh) (hn : w.1 = N0) : Ev g (d + 15) 318 [.ref 0, .int x, .int y, .int day, .ref 1438] (lW w o F A L m f RA RB) (wQ w F A m f RA RB (f) v (if okN x nm = true ∧ okN y np = true then 0 else 1) ((if okN x nm = true ∧ okN y np = true then whyF f nt (cN x) (cN y) day else 0).toInt64)) noX := by
  have hf : ¬ ((if okN x nm = true ∧ okN y np = true then 0 else 1) : Int32) = 0 → (f) = f := fun _ => rfl
  refine ev_L_why ?_ (Nat.le_of_ble_eq_true rfl)
  refine x_lo (lo' := [some (.ref 0), some (.int x), some (.int y), some (.int day), some (.ref 1438), none]) rfl ?_
  refine x_al rfl rfl ?_
  refine x_c rfl ?_
  refine x_al rfl rfl ?_
  refine x_il rfl rfl ?_
  refine x_il rfl rfl ?_
  refine x_il rfl rfl ?_
  refine x_invH (as := [.ref 0, .int x, .int y, .int day]) rfl rfl rfl (Nat.le_of_ble_eq_true rfl) (Or.inl hn) (rcv_at (cw_fs (w := rW (aUp w 1438 (oE o)) m f RA RB) sp_0 hn) (by decide) (by decide)) (Nat.le_of_ble_eq_true rfl) (Nat.le_of_ble_eq_true rfl) (c_why (w := rW (aUp w 1438 (oE o)) m f RA RB) hK hR hI hn) (fun v9 w9 hq => ?_) (fun E w9 hx => ?_)
  rotate_left
  · obtain ⟨rfl, ⟨h9, rfl⟩ | ⟨h9, rfl⟩⟩ := hx
    · refine ⟨10, _, _, _, by decide +kernel, rfl, (Nat.le_of_ble_eq_true rfl), ?_⟩
      refine x_c rfl ?_
      refine x_reti rfl (Nat.le_of_ble_eq_true rfl) (Nat.le_of_ble_eq_true rfl) rfl ?_
      exact wq_x hK hR hI h9.symm (by rw [h9]; decide) hf
    · exfalso
      revert h9
      split <;> first | decide | (split <;> decide)
  · obtain ⟨ht, rfl, F', A', L', np', nm', nc', nt', ns', nh', v', rfl, hv, hS⟩ := hq
    refine x_i2l rfl ?_
    refine x_lasN (j := 0) rfl (lW_at (w := w) (o := o) (F := F') (A := A') (L := L') (m := m) (f := f) (RA := RA) (RB := RB) hn) (by omega) ?_
    rw [show aUp (cW (rW (aUp w 1438 (oE o)) m f RA RB) F' A' L') 1438 (.inl (1, 1, .inr (.inl (vp_updL o 0 _)))) = lW w (vp_updL o 0 _) F' A' L' m f RA RB from lW_o]
    refine x_go rfl ?_
    refine x_c rfl ?_
    refine x_reti rfl (Nat.le_of_ble_eq_true rfl) (Nat.le_of_ble_eq_true rfl) rfl ?_
    exact ⟨by rw [ht], F', A', L', _, np', nm', nc', nt', ns', nh', v', rfl, hv, hS, fun _ => pk_uLs⟩
theorem l_say {e k c j x : Int32} {o : Nat → Int64} {m : Nat → Int32} {RA : Nat → Nat → Int32} {RB : Nat → Nat → Int64} (hK : KI F A f np nm v) (hR : RS F A f 6 np nm nc nt ns nh) (hI : IV f np nm nc nt ns nh) (hn : w.1 = N0) : Ev g (d + 6) 319 [.ref 0, .int e, .int k, .int c, .int j, .int x, .ref 1438] (lW w o F A L m f RA RB) (wQ w F A m f RA RB (if syP e k c j nm nc ∧ okN x 3 = true ∧ ¬ ns = 200 ∧ 0 ≤ f (6607 + 26 * cN c + (6 + cN j)) then sayW f ns e k c j x else f) v (if syP e k c j nm nc then (if okN x 3 = true then 0 else 2) else 1) ((if syP e k c j nm nc ∧ okN x 3 = true then (if ¬ ns = 200 ∧ 0 ≤ f (6607 + 26 * cN c + (6 + cN j)) then nI (ns + 1) else -1) else 0).toInt64)) noX := by
  have hf : ¬ ((if syP e k c j nm nc then (if okN x 3 = true then 0 else 2) else 1) : Int32) = 0 → (if syP e k c j nm nc ∧ okN x 3 = true ∧ ¬ ns = 200 ∧ 0 ≤ f (6607 + 26 * cN c + (6 + cN j)) then sayW f ns e k c j x else f) = f := fun h => if_neg (fun h2 => h (by simp [h2]))
  refine ev_L_say ?_ (Nat.le_of_ble_eq_true rfl)
  refine x_lo (lo' := [some (.ref 0), some (.int e), some (.int k), some (.int c), some (.int j), some (.int x), some (.ref 1438), none]) rfl ?_
  refine x_al rfl rfl ?_
  refine x_c rfl ?_
  refine x_al rfl rfl ?_
  refine x_il rfl rfl ?_
  refine x_il rfl rfl ?_
  refine x_il rfl rfl ?_
  refine x_il rfl rfl ?_
  refine x_il rfl rfl ?_
  refine x_invH (as := [.ref 0, .int e, .int k, .int c, .int j, .int x]) rfl rfl rfl (Nat.le_of_ble_eq_true rfl) (Or.inl hn) (rcv_at (cw_fs (w := rW (aUp w 1438 (oE o)) m f RA RB) sp_0 hn) (by decide) (by decide)) (Nat.le_of_ble_eq_true rfl) (Nat.le_of_ble_eq_true rfl) (c_say (w := rW (aUp w 1438 (oE o)) m f RA RB) hK hR hI hn) (fun v9 w9 hq => ?_) (fun E w9 hx => ?_)
  rotate_left
  · obtain ⟨rfl, ⟨h9, rfl⟩ | ⟨h9, rfl⟩⟩ := hx
    · refine ⟨12, _, _, _, by decide +kernel, rfl, (Nat.le_of_ble_eq_true rfl), ?_⟩
      refine x_c rfl ?_
      refine x_reti rfl (Nat.le_of_ble_eq_true rfl) (Nat.le_of_ble_eq_true rfl) rfl ?_
      exact wq_x hK hR hI h9.symm (by rw [h9]; decide) hf
    · refine ⟨15, _, _, _, by decide +kernel, rfl, (Nat.le_of_ble_eq_true rfl), ?_⟩
      refine x_c rfl ?_
      refine x_reti rfl (Nat.le_of_ble_eq_true rfl) (Nat.le_of_ble_eq_true rfl) rfl ?_
      exact wq_x hK hR hI h9.symm (by rw [h9]; decide) hf
  · obtain ⟨ht, rfl, F', A', L', np', nm', nc', nt', ns', nh', v', rfl, hv, hS⟩ := hq
    refine x_i2l rfl ?_
    refine x_lasN (j := 0) rfl (lW_at (w := w) (o := o) (F := F') (A := A') (L := L') (m := m) (f := f) (RA := RA) (RB := RB) hn) (by omega) ?_
    rw [show aUp (cW (rW (aUp w 1438 (oE o)) m f RA RB) F' A' L') 1438 (.inl (1, 1, .inr (.inl (vp_updL o 0 _)))) = lW w (vp_updL o 0 _) F' A' L' m f RA RB from lW_o]
    refine x_go rfl ?_
    refine x_c rfl ?_
    refine x_reti rfl (Nat.le_of_ble_eq_true rfl) (Nat.le_of_ble_eq_true rfl) rfl ?_
    exact ⟨by rw [ht], F', A', L', _, np', nm', nc', nt', ns', nh', v', rfl, hv, hS, fun _ => pk_uLs⟩
theorem l_said {e k c j day : Int32} {o : Nat → Int64} {m : Nat → Int32} {RA : Nat → Nat → Int32} {RB : Nat → Nat → Int64} (hK : KI F A f np nm v) (hR : RS F A f 6 np nm nc nt ns nh) (hI : IV f np nm nc nt ns nh) (hn : w.1 = N0) : Ev g (d + 5) 320 [.ref 0, .int e, .int k, .int c, .int j, .int day, .ref 1438] (lW w o F A L m f RA RB) (wQ w F A m f RA RB (f) v (if syP e k c j nm nc then 0 else 1) ((if syP e k c j nm nc then sdF f e k c j day ns else 0).toInt64)) noX := by
  have hf : ¬ ((if syP e k c j nm nc then 0 else 1) : Int32) = 0 → (f) = f := fun _ => rfl
  refine ev_L_said ?_ (Nat.le_of_ble_eq_true rfl)
  refine x_lo (lo' := [some (.ref 0), some (.int e), some (.int k), some (.int c), some (.int j), some (.int day), some (.ref 1438), none]) rfl ?_
  refine x_al rfl rfl ?_
  refine x_c rfl ?_
  refine x_al rfl rfl ?_
  refine x_il rfl rfl ?_
  refine x_il rfl rfl ?_
  refine x_il rfl rfl ?_
  refine x_il rfl rfl ?_
  refine x_il rfl rfl ?_
  refine x_invH (as := [.ref 0, .int e, .int k, .int c, .int j, .int day]) rfl rfl rfl (Nat.le_of_ble_eq_true rfl) (Or.inl hn) (rcv_at (cw_fs (w := rW (aUp w 1438 (oE o)) m f RA RB) sp_0 hn) (by decide) (by decide)) (Nat.le_of_ble_eq_true rfl) (Nat.le_of_ble_eq_true rfl) (c_said (w := rW (aUp w 1438 (oE o)) m f RA RB) hK hR hI hn) (fun v9 w9 hq => ?_) (fun E w9 hx => ?_)
  rotate_left
  · obtain ⟨rfl, ⟨h9, rfl⟩ | ⟨h9, rfl⟩⟩ := hx
    · refine ⟨12, _, _, _, by decide +kernel, rfl, (Nat.le_of_ble_eq_true rfl), ?_⟩
      refine x_c rfl ?_
      refine x_reti rfl (Nat.le_of_ble_eq_true rfl) (Nat.le_of_ble_eq_true rfl) rfl ?_
      exact wq_x hK hR hI h9.symm (by rw [h9]; decide) hf
    · exfalso
      revert h9
      split <;> first | decide | (split <;> decide)
  · obtain ⟨ht, rfl, F', A', L', np', nm', nc', nt', ns', nh', v', rfl, hv, hS⟩ := hq
    refine x_i2l rfl ?_
    refine x_lasN (j := 0) rfl (lW_at (w := w) (o := o) (F := F') (A := A') (L := L') (m := m) (f := f) (RA := RA) (RB := RB) hn) (by omega) ?_
    rw [show aUp (cW (rW (aUp w 1438 (oE o)) m f RA RB) F' A' L') 1438 (.inl (1, 1, .inr (.inl (vp_updL o 0 _)))) = lW w (vp_updL o 0 _) F' A' L' m f RA RB from lW_o]
    refine x_go rfl ?_
    refine x_c rfl ?_
    refine x_reti rfl (Nat.le_of_ble_eq_true rfl) (Nat.le_of_ble_eq_true rfl) rfl ?_
    exact ⟨by rw [ht], F', A', L', _, np', nm', nc', nt', ns', nh', v', rfl, hv, hS, fun _ => pk_uLs⟩
theorem l_proved {k c j day : Int32} {o : Nat → Int64} {m : Nat → Int32} {RA : Nat → Nat → Int32} {RB : Nat → Nat → Int64} (hK : KI F A f np nm v) (hR : RS F A f 6 np nm nc nt ns nh) (hI : IV f np nm nc nt ns nh) (hn : w.1 = N0) : Ev g (d + 16) 321 [.ref 0, .int k, .int c, .int j, .int day, .ref 1438] (lW w o F A L m f RA RB) (wQ w F A m f RA RB (f) v (if mcP k c j nm nc then 0 else 1) (if mcP k c j nm nc ∧ prvP f nt ns (cN k) (cN c) (cN j) day then 1 else 0)) noX := by
  have hf : ¬ ((if mcP k c j nm nc then 0 else 1) : Int32) = 0 → (f) = f := fun _ => rfl
  refine ev_L_proved ?_ (Nat.le_of_ble_eq_true rfl)
  refine x_lo (lo' := [some (.ref 0), some (.int k), some (.int c), some (.int j), some (.int day), some (.ref 1438), none]) rfl ?_
  refine x_al rfl rfl ?_
  refine x_c rfl ?_
  refine x_al rfl rfl ?_
  refine x_il rfl rfl ?_
  refine x_il rfl rfl ?_
  refine x_il rfl rfl ?_
  refine x_il rfl rfl ?_
  refine x_invH (as := [.ref 0, .int k, .int c, .int j, .int day]) rfl rfl rfl (Nat.le_of_ble_eq_true rfl) (Or.inl hn) (rcv_at (cw_fs (w := rW (aUp w 1438 (oE o)) m f RA RB) sp_0 hn) (by decide) (by decide)) (Nat.le_of_ble_eq_true rfl) (Nat.le_of_ble_eq_true rfl) (c_proved (w := rW (aUp w 1438 (oE o)) m f RA RB) hK hR hI hn) (fun v9 w9 hq => ?_) (fun E w9 hx => ?_)
  rotate_left
  · obtain ⟨rfl, ⟨h9, rfl⟩ | ⟨h9, rfl⟩⟩ := hx
    · refine ⟨14, _, _, _, by decide +kernel, rfl, (Nat.le_of_ble_eq_true rfl), ?_⟩
      refine x_c rfl ?_
      refine x_reti rfl (Nat.le_of_ble_eq_true rfl) (Nat.le_of_ble_eq_true rfl) rfl ?_
      exact wq_x hK hR hI h9.symm (by rw [h9]; decide) hf
    · exfalso
      revert h9
      split <;> first | decide | (split <;> decide)
  · obtain ⟨ht, rfl, F', A', L', np', nm', nc', nt', ns', nh', v', rfl, hv, hS⟩ := hq
    refine x_ifeqB rfl (fun c9 => ?_) (fun c9 => ?_)
    · skip
      refine x_c rfl ?_
      refine x_lasN (j := 0) rfl (lW_at (w := w) (o := o) (F := F') (A := A') (L := L') (m := m) (f := f) (RA := RA) (RB := RB) hn) (by omega) ?_
      rw [show aUp (cW (rW (aUp w 1438 (oE o)) m f RA RB) F' A' L') 1438 (.inl (1, 1, .inr (.inl (vp_updL o 0 _)))) = lW w (vp_updL o 0 _) F' A' L' m f RA RB from lW_o]
      refine x_go rfl ?_
      refine x_c rfl ?_
      refine x_reti rfl (Nat.le_of_ble_eq_true rfl) (Nat.le_of_ble_eq_true rfl) rfl ?_
      exact ⟨by rw [ht], F', A', L', _, np', nm', nc', nt', ns', nh', v', rfl, hv, hS, fun _ => pk_uLs.trans (if_neg c9).symm⟩
    · skip
      refine x_c rfl ?_
      refine x_go rfl ?_
      refine x_lasN (j := 0) rfl (lW_at (w := w) (o := o) (F := F') (A := A') (L := L') (m := m) (f := f) (RA := RA) (RB := RB) hn) (by omega) ?_
      rw [show aUp (cW (rW (aUp w 1438 (oE o)) m f RA RB) F' A' L') 1438 (.inl (1, 1, .inr (.inl (vp_updL o 0 _)))) = lW w (vp_updL o 0 _) F' A' L' m f RA RB from lW_o]
      refine x_go rfl ?_
      refine x_c rfl ?_
      refine x_reti rfl (Nat.le_of_ble_eq_true rfl) (Nat.le_of_ble_eq_true rfl) rfl ?_
      exact ⟨by rw [ht], F', A', L', _, np', nm', nc', nt', ns', nh', v', rfl, hv, hS, fun _ => pk_uLs.trans (if_pos c9).symm⟩
theorem l_alike {x y day : Int32} {o : Nat → Int64} {m : Nat → Int32} {RA : Nat → Nat → Int32} {RB : Nat → Nat → Int64} (hK : KI F A f np nm v) (hR : RS F A f 6 np nm nc nt ns nh) (hI : IV f np nm nc nt ns nh) (hn : w.1 = N0) : Ev g (d + 16) 322 [.ref 0, .int x, .int y, .int day, .ref 1438] (lW w o F A L m f RA RB) (wQ w F A m f RA RB (f) v (if okN x nc = true ∧ okN y nc = true then 0 else 1) ((if okN x nc = true ∧ okN y nc = true then nI (alkN f nt (min (cN x) (cN y)) (max (cN x) (cN y)) day 10) else 0).toInt64)) noX := by
  have hf : ¬ ((if okN x nc = true ∧ okN y nc = true then 0 else 1) : Int32) = 0 → (f) = f := fun _ => rfl
  refine ev_L_alike ?_ (Nat.le_of_ble_eq_true rfl)
  refine x_lo (lo' := [some (.ref 0), some (.int x), some (.int y), some (.int day), some (.ref 1438), none]) rfl ?_
  refine x_al rfl rfl ?_
  refine x_c rfl ?_
  refine x_al rfl rfl ?_
  refine x_il rfl rfl ?_
  refine x_il rfl rfl ?_
  refine x_il rfl rfl ?_
  refine x_invH (as := [.ref 0, .int x, .int y, .int day]) rfl rfl rfl (Nat.le_of_ble_eq_true rfl) (Or.inl hn) (rcv_at (cw_fs (w := rW (aUp w 1438 (oE o)) m f RA RB) sp_0 hn) (by decide) (by decide)) (Nat.le_of_ble_eq_true rfl) (Nat.le_of_ble_eq_true rfl) (c_alike (w := rW (aUp w 1438 (oE o)) m f RA RB) hK hR hI hn) (fun v9 w9 hq => ?_) (fun E w9 hx => ?_)
  rotate_left
  · obtain ⟨rfl, ⟨h9, rfl⟩ | ⟨h9, rfl⟩⟩ := hx
    · refine ⟨10, _, _, _, by decide +kernel, rfl, (Nat.le_of_ble_eq_true rfl), ?_⟩
      refine x_c rfl ?_
      refine x_reti rfl (Nat.le_of_ble_eq_true rfl) (Nat.le_of_ble_eq_true rfl) rfl ?_
      exact wq_x hK hR hI h9.symm (by rw [h9]; decide) hf
    · exfalso
      revert h9
      split <;> first | decide | (split <;> decide)
  · obtain ⟨ht, rfl, F', A', L', np', nm', nc', nt', ns', nh', v', rfl, hv, hS⟩ := hq
    refine x_i2l rfl ?_
    refine x_lasN (j := 0) rfl (lW_at (w := w) (o := o) (F := F') (A := A') (L := L') (m := m) (f := f) (RA := RA) (RB := RB) hn) (by omega) ?_
    rw [show aUp (cW (rW (aUp w 1438 (oE o)) m f RA RB) F' A' L') 1438 (.inl (1, 1, .inr (.inl (vp_updL o 0 _)))) = lW w (vp_updL o 0 _) F' A' L' m f RA RB from lW_o]
    refine x_go rfl ?_
    refine x_c rfl ?_
    refine x_reti rfl (Nat.le_of_ble_eq_true rfl) (Nat.le_of_ble_eq_true rfl) rfl ?_
    exact ⟨by rw [ht], F', A', L', _, np', nm', nc', nt', ns', nh', v', rfl, hv, hS, fun _ => pk_uLs⟩
theorem l_person {x day : Int32} {o : Nat → Int64} {m : Nat → Int32} {RA : Nat → Nat → Int32} {RB : Nat → Nat → Int64} (hK : KI F A f np nm v) (hR : RS F A f 6 np nm nc nt ns nh) (hI : IV f np nm nc nt ns nh) (hn : w.1 = N0) : Ev g (d + 17) 323 [.ref 0, .int x, .int day, .ref 1438] (lW w o F A L m f RA RB) (wQ w F A m f RA RB (f) v (if okN x nc = true then 0 else 1) ((if okN x nc = true then leastF f nt nc day (A 1423) (cN x) else 0).toInt64)) noX := by
  have hf : ¬ ((if okN x nc = true then 0 else 1) : Int32) = 0 → (f) = f := fun _ => rfl
  refine ev_L_person ?_ (Nat.le_of_ble_eq_true rfl)
  refine x_lo (lo' := [some (.ref 0), some (.int x), some (.int day), some (.ref 1438), none]) rfl ?_
  refine x_al rfl rfl ?_
  refine x_c rfl ?_
  refine x_al rfl rfl ?_
  refine x_il rfl rfl ?_
  refine x_il rfl rfl ?_
  refine x_invH (as := [.ref 0, .int x, .int day]) rfl rfl rfl (Nat.le_of_ble_eq_true rfl) (Or.inl hn) (rcv_at (cw_fs (w := rW (aUp w 1438 (oE o)) m f RA RB) sp_0 hn) (by decide) (by decide)) (Nat.le_of_ble_eq_true rfl) (Nat.le_of_ble_eq_true rfl) (c_person (w := rW (aUp w 1438 (oE o)) m f RA RB) hK hR hI hn) (fun v9 w9 hq => ?_) (fun E w9 hx => ?_)
  rotate_left
  · obtain ⟨rfl, ⟨h9, rfl⟩ | ⟨h9, rfl⟩⟩ := hx
    · refine ⟨9, _, _, _, by decide +kernel, rfl, (Nat.le_of_ble_eq_true rfl), ?_⟩
      refine x_c rfl ?_
      refine x_reti rfl (Nat.le_of_ble_eq_true rfl) (Nat.le_of_ble_eq_true rfl) rfl ?_
      exact wq_x hK hR hI h9.symm (by rw [h9]; decide) hf
    · exfalso
      revert h9
      split <;> first | decide | (split <;> decide)
  · obtain ⟨ht, rfl, F', A', L', np', nm', nc', nt', ns', nh', v', rfl, hv, hS⟩ := hq
    refine x_i2l rfl ?_
    refine x_lasN (j := 0) rfl (lW_at (w := w) (o := o) (F := F') (A := A') (L := L') (m := m) (f := f) (RA := RA) (RB := RB) hn) (by omega) ?_
    rw [show aUp (cW (rW (aUp w 1438 (oE o)) m f RA RB) F' A' L') 1438 (.inl (1, 1, .inr (.inl (vp_updL o 0 _)))) = lW w (vp_updL o 0 _) F' A' L' m f RA RB from lW_o]
    refine x_go rfl ?_
    refine x_c rfl ?_
    refine x_reti rfl (Nat.le_of_ble_eq_true rfl) (Nat.le_of_ble_eq_true rfl) rfl ?_
    exact ⟨by rw [ht], F', A', L', _, np', nm', nc', nt', ns', nh', v', rfl, hv, hS, fun _ => pk_uLs⟩
theorem l_tell {x y : Int32} {o : Nat → Int64} {m : Nat → Int32} {RA : Nat → Nat → Int32} {RB : Nat → Nat → Int64} (hK : KI F A f np nm v) (hR : RS F A f 6 np nm nc nt ns nh) (hI : IV f np nm nc nt ns nh) (hn : w.1 = N0) : Ev g (d + 5) 324 [.ref 0, .int x, .int y, .ref 1438] (lW w o F A L m f RA RB) (wQ w F A m f RA RB (if okN x nc = true ∧ okN y 3 = true ∧ f (6607 + 26 * cN x + (3 + cN y)) < 0 then upd f (6607 + 26 * cN x + (3 + cN y)) (f 0) else f) v (if okN x nc = true then (if okN y 3 = true then 0 else 2) else 1) (if okN x nc = true ∧ okN y 3 = true ∧ f (6607 + 26 * cN x + (3 + cN y)) < 0 then 1 else 0)) noX := by
  have hf : ¬ ((if okN x nc = true then (if okN y 3 = true then 0 else 2) else 1) : Int32) = 0 → (if okN x nc = true ∧ okN y 3 = true ∧ f (6607 + 26 * cN x + (3 + cN y)) < 0 then upd f (6607 + 26 * cN x + (3 + cN y)) (f 0) else f) = f := fun h => if_neg (fun h2 => h (by simp [h2]))
  refine ev_L_tell ?_ (Nat.le_of_ble_eq_true rfl)
  refine x_lo (lo' := [some (.ref 0), some (.int x), some (.int y), some (.ref 1438), none]) rfl ?_
  refine x_al rfl rfl ?_
  refine x_c rfl ?_
  refine x_al rfl rfl ?_
  refine x_il rfl rfl ?_
  refine x_il rfl rfl ?_
  refine x_invH (as := [.ref 0, .int x, .int y]) rfl rfl rfl (Nat.le_of_ble_eq_true rfl) (Or.inl hn) (rcv_at (cw_fs (w := rW (aUp w 1438 (oE o)) m f RA RB) sp_0 hn) (by decide) (by decide)) (Nat.le_of_ble_eq_true rfl) (Nat.le_of_ble_eq_true rfl) (c_tell (w := rW (aUp w 1438 (oE o)) m f RA RB) hK hR hI hn) (fun v9 w9 hq => ?_) (fun E w9 hx => ?_)
  rotate_left
  · obtain ⟨rfl, ⟨h9, rfl⟩ | ⟨h9, rfl⟩⟩ := hx
    · refine ⟨12, _, _, _, by decide +kernel, rfl, (Nat.le_of_ble_eq_true rfl), ?_⟩
      refine x_c rfl ?_
      refine x_reti rfl (Nat.le_of_ble_eq_true rfl) (Nat.le_of_ble_eq_true rfl) rfl ?_
      exact wq_x hK hR hI h9.symm (by rw [h9]; decide) hf
    · refine ⟨15, _, _, _, by decide +kernel, rfl, (Nat.le_of_ble_eq_true rfl), ?_⟩
      refine x_c rfl ?_
      refine x_reti rfl (Nat.le_of_ble_eq_true rfl) (Nat.le_of_ble_eq_true rfl) rfl ?_
      exact wq_x hK hR hI h9.symm (by rw [h9]; decide) hf
  · obtain ⟨ht, rfl, F', A', L', np', nm', nc', nt', ns', nh', v', rfl, hv, hS⟩ := hq
    refine x_ifeqB rfl (fun c9 => ?_) (fun c9 => ?_)
    · skip
      refine x_c rfl ?_
      refine x_lasN (j := 0) rfl (lW_at (w := w) (o := o) (F := F') (A := A') (L := L') (m := m) (f := f) (RA := RA) (RB := RB) hn) (by omega) ?_
      rw [show aUp (cW (rW (aUp w 1438 (oE o)) m f RA RB) F' A' L') 1438 (.inl (1, 1, .inr (.inl (vp_updL o 0 _)))) = lW w (vp_updL o 0 _) F' A' L' m f RA RB from lW_o]
      refine x_go rfl ?_
      refine x_c rfl ?_
      refine x_reti rfl (Nat.le_of_ble_eq_true rfl) (Nat.le_of_ble_eq_true rfl) rfl ?_
      exact ⟨by rw [ht], F', A', L', _, np', nm', nc', nt', ns', nh', v', rfl, hv, hS, fun _ => pk_uLs.trans (if_neg c9).symm⟩
    · skip
      refine x_c rfl ?_
      refine x_go rfl ?_
      refine x_lasN (j := 0) rfl (lW_at (w := w) (o := o) (F := F') (A := A') (L := L') (m := m) (f := f) (RA := RA) (RB := RB) hn) (by omega) ?_
      rw [show aUp (cW (rW (aUp w 1438 (oE o)) m f RA RB) F' A' L') 1438 (.inl (1, 1, .inr (.inl (vp_updL o 0 _)))) = lW w (vp_updL o 0 _) F' A' L' m f RA RB from lW_o]
      refine x_go rfl ?_
      refine x_c rfl ?_
      refine x_reti rfl (Nat.le_of_ble_eq_true rfl) (Nat.le_of_ble_eq_true rfl) rfl ?_
      exact ⟨by rw [ht], F', A', L', _, np', nm', nc', nt', ns', nh', v', rfl, hv, hS, fun _ => pk_uLs.trans (if_pos c9).symm⟩
theorem l_kept {x day : Int32} {o : Nat → Int64} {m : Nat → Int32} {RA : Nat → Nat → Int32} {RB : Nat → Nat → Int64} (hK : KI F A f np nm v) (hR : RS F A f 6 np nm nc nt ns nh) (hI : IV f np nm nc nt ns nh) (hn : w.1 = N0) : Ev g (d + 7) 325 [.ref 0, .int x, .int day, .ref 1438] (lW w o F A L m f RA RB) (wQ w F A m f RA RB (f) v (if okN x nc = true then 0 else 1) ((if okN x nc = true then keptF f nt (cN x) day else 0).toInt64)) noX := by
  have hf : ¬ ((if okN x nc = true then 0 else 1) : Int32) = 0 → (f) = f := fun _ => rfl
  refine ev_L_kept ?_ (Nat.le_of_ble_eq_true rfl)
  refine x_lo (lo' := [some (.ref 0), some (.int x), some (.int day), some (.ref 1438), none]) rfl ?_
  refine x_al rfl rfl ?_
  refine x_c rfl ?_
  refine x_al rfl rfl ?_
  refine x_il rfl rfl ?_
  refine x_il rfl rfl ?_
  refine x_invH (as := [.ref 0, .int x, .int day]) rfl rfl rfl (Nat.le_of_ble_eq_true rfl) (Or.inl hn) (rcv_at (cw_fs (w := rW (aUp w 1438 (oE o)) m f RA RB) sp_0 hn) (by decide) (by decide)) (Nat.le_of_ble_eq_true rfl) (Nat.le_of_ble_eq_true rfl) (c_kept (w := rW (aUp w 1438 (oE o)) m f RA RB) hK hR hI hn) (fun v9 w9 hq => ?_) (fun E w9 hx => ?_)
  rotate_left
  · obtain ⟨rfl, ⟨h9, rfl⟩ | ⟨h9, rfl⟩⟩ := hx
    · refine ⟨9, _, _, _, by decide +kernel, rfl, (Nat.le_of_ble_eq_true rfl), ?_⟩
      refine x_c rfl ?_
      refine x_reti rfl (Nat.le_of_ble_eq_true rfl) (Nat.le_of_ble_eq_true rfl) rfl ?_
      exact wq_x hK hR hI h9.symm (by rw [h9]; decide) hf
    · exfalso
      revert h9
      split <;> first | decide | (split <;> decide)
  · obtain ⟨ht, rfl, F', A', L', np', nm', nc', nt', ns', nh', v', rfl, hv, hS⟩ := hq
    refine x_i2l rfl ?_
    refine x_lasN (j := 0) rfl (lW_at (w := w) (o := o) (F := F') (A := A') (L := L') (m := m) (f := f) (RA := RA) (RB := RB) hn) (by omega) ?_
    rw [show aUp (cW (rW (aUp w 1438 (oE o)) m f RA RB) F' A' L') 1438 (.inl (1, 1, .inr (.inl (vp_updL o 0 _)))) = lW w (vp_updL o 0 _) F' A' L' m f RA RB from lW_o]
    refine x_go rfl ?_
    refine x_c rfl ?_
    refine x_reti rfl (Nat.le_of_ble_eq_true rfl) (Nat.le_of_ble_eq_true rfl) rfl ?_
    exact ⟨by rw [ht], F', A', L', _, np', nm', nc', nt', ns', nh', v', rfl, hv, hS, fun _ => pk_uLs⟩
theorem l_desk {x : Int32} {o : Nat → Int64} {m : Nat → Int32} {RA : Nat → Nat → Int32} {RB : Nat → Nat → Int64} (hK : KI F A f np nm v) (hR : RS F A f 6 np nm nc nt ns nh) (hI : IV f np nm nc nt ns nh) (hn : w.1 = N0) : Ev g (d + 3) 326 [.ref 0, .int x] (lW w o F A L m f RA RB) (wV w F A m f RA RB (if okN x 61 = true then upd f 2 x else f) v (if okN x 61 = true then 0 else 1)) noX := by
  have hf : ¬ ((if okN x 61 = true then 0 else 1) : Int32) = 0 → (if okN x 61 = true then upd f 2 x else f) = f := fun h => if_neg (fun h2 => h (by simp [h2]))
  refine ev_L_desk ?_ (Nat.le_of_ble_eq_true rfl)
  refine x_lo (lo' := [some (.ref 0), some (.int x), none]) rfl ?_
  refine x_al rfl rfl ?_
  refine x_il rfl rfl ?_
  refine x_invH (as := [.ref 0, .int x]) rfl rfl rfl (Nat.le_of_ble_eq_true rfl) (Or.inl hn) (rcv_at (cw_fs (w := rW (aUp w 1438 (oE o)) m f RA RB) sp_0 hn) (by decide) (by decide)) (Nat.le_of_ble_eq_true rfl) (Nat.le_of_ble_eq_true rfl) (c_desk (w := rW (aUp w 1438 (oE o)) m f RA RB) hK hR hI hn) (fun v9 w9 hq => ?_) (fun E w9 hx => ?_)
  rotate_left
  · obtain ⟨rfl, ⟨h9, rfl⟩ | ⟨h9, rfl⟩⟩ := hx
    · refine ⟨4, _, _, _, by decide +kernel, rfl, (Nat.le_of_ble_eq_true rfl), ?_⟩
      refine x_c rfl ?_
      refine x_reti rfl (Nat.le_of_ble_eq_true rfl) (Nat.le_of_ble_eq_true rfl) rfl ?_
      exact wv_x hK hR hI h9.symm (by rw [h9]; decide) hf
    · exfalso
      revert h9
      split <;> first | decide | (split <;> decide)
  · obtain ⟨ht, rfl, F', A', L', np', nm', nc', nt', ns', nh', v', rfl, hv, hS⟩ := hq
    refine x_go rfl ?_
    refine x_c rfl ?_
    refine x_reti rfl (Nat.le_of_ble_eq_true rfl) (Nat.le_of_ble_eq_true rfl) rfl ?_
    exact ⟨by rw [ht], F', A', L', o, np', nm', nc', nt', ns', nh', v', rfl, hv, hS⟩
theorem l_days {x : Int32} {o : Nat → Int64} {m : Nat → Int32} {RA : Nat → Nat → Int32} {RB : Nat → Nat → Int64} (hK : KI F A f np nm v) (hR : RS F A f 6 np nm nc nt ns nh) (hI : IV f np nm nc nt ns nh) (hn : w.1 = N0) : Ev g (d + 17) 327 [.ref 0, .int x, .ref 1438] (lW w o F A L m f RA RB) (wQ w F A m f RA RB (if okN x 41 = true then daysF nt nc nm ns (cN x) f else f) v (if okN x 41 = true then 0 else 1) ((if okN x 41 = true then daysF nt nc nm ns (cN x) f 0 else 0).toInt64)) noX := by
  have hf : ¬ ((if okN x 41 = true then 0 else 1) : Int32) = 0 → (if okN x 41 = true then daysF nt nc nm ns (cN x) f else f) = f := fun h => if_neg (fun h2 => h (by simp [h2]))
  refine ev_L_days ?_ (Nat.le_of_ble_eq_true rfl)
  refine x_lo (lo' := [some (.ref 0), some (.int x), some (.ref 1438), none]) rfl ?_
  refine x_al rfl rfl ?_
  refine x_c rfl ?_
  refine x_al rfl rfl ?_
  refine x_il rfl rfl ?_
  refine x_invH (as := [.ref 0, .int x]) rfl rfl rfl (Nat.le_of_ble_eq_true rfl) (Or.inl hn) (rcv_at (cw_fs (w := rW (aUp w 1438 (oE o)) m f RA RB) sp_0 hn) (by decide) (by decide)) (Nat.le_of_ble_eq_true rfl) (Nat.le_of_ble_eq_true rfl) (c_daysQ (w := rW (aUp w 1438 (oE o)) m f RA RB) hK hR hI hn) (fun v9 w9 hq => ?_) (fun E w9 hx => ?_)
  rotate_left
  · obtain ⟨rfl, ⟨h9, rfl⟩ | ⟨h9, rfl⟩⟩ := hx
    · refine ⟨8, _, _, _, by decide +kernel, rfl, (Nat.le_of_ble_eq_true rfl), ?_⟩
      refine x_c rfl ?_
      refine x_reti rfl (Nat.le_of_ble_eq_true rfl) (Nat.le_of_ble_eq_true rfl) rfl ?_
      exact wq_x hK hR hI h9.symm (by rw [h9]; decide) hf
    · exfalso
      revert h9
      split <;> first | decide | (split <;> decide)
  · obtain ⟨ht, rfl, F', A', L', np', nm', nc', nt', ns', nh', v', rfl, hv, hS⟩ := hq
    refine x_i2l rfl ?_
    refine x_lasN (j := 0) rfl (lW_at (w := w) (o := o) (F := F') (A := A') (L := L') (m := m) (f := f) (RA := RA) (RB := RB) hn) (by omega) ?_
    rw [show aUp (cW (rW (aUp w 1438 (oE o)) m f RA RB) F' A' L') 1438 (.inl (1, 1, .inr (.inl (vp_updL o 0 _)))) = lW w (vp_updL o 0 _) F' A' L' m f RA RB from lW_o]
    refine x_go rfl ?_
    refine x_c rfl ?_
    refine x_reti rfl (Nat.le_of_ble_eq_true rfl) (Nat.le_of_ble_eq_true rfl) rfl ?_
    exact ⟨by rw [ht], F', A', L', _, np', nm', nc', nt', ns', nh', v', rfl, hv, hS, fun _ => pk_uLs⟩
theorem l_look {x y : Int32} {o : Nat → Int64} {m : Nat → Int32} {RA : Nat → Nat → Int32} {RB : Nat → Nat → Int64} (hK : KI F A f np nm v) (hR : RS F A f 6 np nm nc nt ns nh) (hI : IV f np nm nc nt ns nh) (hn : w.1 = N0) : Ev g (d + 6) 328 [.ref 0, .int x, .int y, .ref 1438] (lW w o F A L m f RA RB) (wQ w F A m f RA RB (f) v (if okN x nc = true then (if okN y 6 = true then 0 else 2) else 1) ((if okN x nc = true ∧ okN y 6 = true then lookF f nh (cN x) (cN y) else 0).toInt64)) noX := by
  have hf : ¬ ((if okN x nc = true then (if okN y 6 = true then 0 else 2) else 1) : Int32) = 0 → (f) = f := fun _ => rfl
  refine ev_L_look ?_ (Nat.le_of_ble_eq_true rfl)
  refine x_lo (lo' := [some (.ref 0), some (.int x), some (.int y), some (.ref 1438), none]) rfl ?_
  refine x_al rfl rfl ?_
  refine x_c rfl ?_
  refine x_al rfl rfl ?_
  refine x_il rfl rfl ?_
  refine x_il rfl rfl ?_
  refine x_invH (as := [.ref 0, .int x, .int y]) rfl rfl rfl (Nat.le_of_ble_eq_true rfl) (Or.inl hn) (rcv_at (cw_fs (w := rW (aUp w 1438 (oE o)) m f RA RB) sp_0 hn) (by decide) (by decide)) (Nat.le_of_ble_eq_true rfl) (Nat.le_of_ble_eq_true rfl) (c_look (w := rW (aUp w 1438 (oE o)) m f RA RB) hK hR hI hn) (fun v9 w9 hq => ?_) (fun E w9 hx => ?_)
  rotate_left
  · obtain ⟨rfl, ⟨h9, rfl⟩ | ⟨h9, rfl⟩⟩ := hx
    · refine ⟨9, _, _, _, by decide +kernel, rfl, (Nat.le_of_ble_eq_true rfl), ?_⟩
      refine x_c rfl ?_
      refine x_reti rfl (Nat.le_of_ble_eq_true rfl) (Nat.le_of_ble_eq_true rfl) rfl ?_
      exact wq_x hK hR hI h9.symm (by rw [h9]; decide) hf
    · refine ⟨12, _, _, _, by decide +kernel, rfl, (Nat.le_of_ble_eq_true rfl), ?_⟩
      refine x_c rfl ?_
      refine x_reti rfl (Nat.le_of_ble_eq_true rfl) (Nat.le_of_ble_eq_true rfl) rfl ?_
      exact wq_x hK hR hI h9.symm (by rw [h9]; decide) hf
  · obtain ⟨ht, rfl, F', A', L', np', nm', nc', nt', ns', nh', v', rfl, hv, hS⟩ := hq
    refine x_i2l rfl ?_
    refine x_lasN (j := 0) rfl (lW_at (w := w) (o := o) (F := F') (A := A') (L := L') (m := m) (f := f) (RA := RA) (RB := RB) hn) (by omega) ?_
    rw [show aUp (cW (rW (aUp w 1438 (oE o)) m f RA RB) F' A' L') 1438 (.inl (1, 1, .inr (.inl (vp_updL o 0 _)))) = lW w (vp_updL o 0 _) F' A' L' m f RA RB from lW_o]
    refine x_go rfl ?_
    refine x_c rfl ?_
    refine x_reti rfl (Nat.le_of_ble_eq_true rfl) (Nat.le_of_ble_eq_true rfl) rfl ?_
    exact ⟨by rw [ht], F', A', L', _, np', nm', nc', nt', ns', nh', v', rfl, hv, hS, fun _ => pk_uLs⟩
theorem l_hit {x y : Int32} {o : Nat → Int64} {m : Nat → Int32} {RA : Nat → Nat → Int32} {RB : Nat → Nat → Int64} (hK : KI F A f np nm v) (hR : RS F A f 6 np nm nc nt ns nh) (hI : IV f np nm nc nt ns nh) (hn : w.1 = N0) : Ev g (d + 4) 329 [.ref 0, .int x, .int y, .ref 1438] (lW w o F A L m f RA RB) (wQ w F A m f RA RB (f) v (if okN x nh = true ∧ okN y 6 = true then 0 else 1) ((if okN x nh = true ∧ okN y 6 = true then f (11425 + 7 * cN x + cN y) else 0).toInt64)) noX := by
  have hf : ¬ ((if okN x nh = true ∧ okN y 6 = true then 0 else 1) : Int32) = 0 → (f) = f := fun _ => rfl
  refine ev_L_hit ?_ (Nat.le_of_ble_eq_true rfl)
  refine x_lo (lo' := [some (.ref 0), some (.int x), some (.int y), some (.ref 1438), none]) rfl ?_
  refine x_al rfl rfl ?_
  refine x_c rfl ?_
  refine x_al rfl rfl ?_
  refine x_il rfl rfl ?_
  refine x_il rfl rfl ?_
  refine x_invH (as := [.ref 0, .int x, .int y]) rfl rfl rfl (Nat.le_of_ble_eq_true rfl) (Or.inl hn) (rcv_at (cw_fs (w := rW (aUp w 1438 (oE o)) m f RA RB) sp_0 hn) (by decide) (by decide)) (Nat.le_of_ble_eq_true rfl) (Nat.le_of_ble_eq_true rfl) (c_hit (w := rW (aUp w 1438 (oE o)) m f RA RB) hK hR hI hn) (fun v9 w9 hq => ?_) (fun E w9 hx => ?_)
  rotate_left
  · obtain ⟨rfl, ⟨h9, rfl⟩ | ⟨h9, rfl⟩⟩ := hx
    · refine ⟨9, _, _, _, by decide +kernel, rfl, (Nat.le_of_ble_eq_true rfl), ?_⟩
      refine x_c rfl ?_
      refine x_reti rfl (Nat.le_of_ble_eq_true rfl) (Nat.le_of_ble_eq_true rfl) rfl ?_
      exact wq_x hK hR hI h9.symm (by rw [h9]; decide) hf
    · exfalso
      revert h9
      split <;> first | decide | (split <;> decide)
  · obtain ⟨ht, rfl, F', A', L', np', nm', nc', nt', ns', nh', v', rfl, hv, hS⟩ := hq
    refine x_i2l rfl ?_
    refine x_lasN (j := 0) rfl (lW_at (w := w) (o := o) (F := F') (A := A') (L := L') (m := m) (f := f) (RA := RA) (RB := RB) hn) (by omega) ?_
    rw [show aUp (cW (rW (aUp w 1438 (oE o)) m f RA RB) F' A' L') 1438 (.inl (1, 1, .inr (.inl (vp_updL o 0 _)))) = lW w (vp_updL o 0 _) F' A' L' m f RA RB from lW_o]
    refine x_go rfl ?_
    refine x_c rfl ?_
    refine x_reti rfl (Nat.le_of_ble_eq_true rfl) (Nat.le_of_ble_eq_true rfl) rfl ?_
    exact ⟨by rw [ht], F', A', L', _, np', nm', nc', nt', ns', nh', v', rfl, hv, hS, fun _ => pk_uLs⟩
theorem l_left {x : Int32} {o : Nat → Int64} {m : Nat → Int32} {RA : Nat → Nat → Int32} {RB : Nat → Nat → Int64} (hK : KI F A f np nm v) (hR : RS F A f 6 np nm nc nt ns nh) (hI : IV f np nm nc nt ns nh) (hn : w.1 = N0) : Ev g (d + 5) 330 [.ref 0, .int x, .ref 1438] (lW w o F A L m f RA RB) (wQ w F A m f RA RB (f) v (if okN x nm = true then 0 else 1) ((if okN x nm = true then nI (cn (fun k => decide (wtP f (cN x) k)) (10 * nc)) else 0).toInt64)) noX := by
  have hf : ¬ ((if okN x nm = true then 0 else 1) : Int32) = 0 → (f) = f := fun _ => rfl
  refine ev_L_left ?_ (Nat.le_of_ble_eq_true rfl)
  refine x_lo (lo' := [some (.ref 0), some (.int x), some (.ref 1438), none]) rfl ?_
  refine x_al rfl rfl ?_
  refine x_c rfl ?_
  refine x_al rfl rfl ?_
  refine x_il rfl rfl ?_
  refine x_invH (as := [.ref 0, .int x]) rfl rfl rfl (Nat.le_of_ble_eq_true rfl) (Or.inl hn) (rcv_at (cw_fs (w := rW (aUp w 1438 (oE o)) m f RA RB) sp_0 hn) (by decide) (by decide)) (Nat.le_of_ble_eq_true rfl) (Nat.le_of_ble_eq_true rfl) (c_left (w := rW (aUp w 1438 (oE o)) m f RA RB) hK hR hI hn) (fun v9 w9 hq => ?_) (fun E w9 hx => ?_)
  rotate_left
  · obtain ⟨rfl, ⟨h9, rfl⟩ | ⟨h9, rfl⟩⟩ := hx
    · refine ⟨8, _, _, _, by decide +kernel, rfl, (Nat.le_of_ble_eq_true rfl), ?_⟩
      refine x_c rfl ?_
      refine x_reti rfl (Nat.le_of_ble_eq_true rfl) (Nat.le_of_ble_eq_true rfl) rfl ?_
      exact wq_x hK hR hI h9.symm (by rw [h9]; decide) hf
    · exfalso
      revert h9
      split <;> first | decide | (split <;> decide)
  · obtain ⟨ht, rfl, F', A', L', np', nm', nc', nt', ns', nh', v', rfl, hv, hS⟩ := hq
    refine x_i2l rfl ?_
    refine x_lasN (j := 0) rfl (lW_at (w := w) (o := o) (F := F') (A := A') (L := L') (m := m) (f := f) (RA := RA) (RB := RB) hn) (by omega) ?_
    rw [show aUp (cW (rW (aUp w 1438 (oE o)) m f RA RB) F' A' L') 1438 (.inl (1, 1, .inr (.inl (vp_updL o 0 _)))) = lW w (vp_updL o 0 _) F' A' L' m f RA RB from lW_o]
    refine x_go rfl ?_
    refine x_c rfl ?_
    refine x_reti rfl (Nat.le_of_ble_eq_true rfl) (Nat.le_of_ble_eq_true rfl) rfl ?_
    exact ⟨by rw [ht], F', A', L', _, np', nm', nc', nt', ns', nh', v', rfl, hv, hS, fun _ => pk_uLs⟩
theorem l_rare {x : Int32} {below : Bool} {a u : Int64} {o : Nat → Int64} {m : Nat → Int32} {RA : Nat → Nat → Int32} {RB : Nat → Nat → Int64} (hK : KI F A f np nm v) (hR : RS F A f 6 np nm nc nt ns nh) (hI : IV f np nm nc nt ns nh) (hr : okN x nc = true → rarF f nc (cN x) 10 = some (a, u)) (hn : w.1 = N0) : Ev g (d + 6) 331 [.ref 0, .int x, .int (bI below), .ref 1438] (lW w o F A L m f RA RB) (wQ w F A m f RA RB (f) v (if okN x nc = true then 0 else 1) (if okN x nc = true then (if below = true then u else a) else 0)) noX := by
  have hf : ¬ ((if okN x nc = true then 0 else 1) : Int32) = 0 → (f) = f := fun _ => rfl
  refine ev_L_rare ?_ (Nat.le_of_ble_eq_true rfl)
  refine x_lo (lo' := [some (.ref 0), some (.int x), some (.int (bI below)), some (.ref 1438), none]) rfl ?_
  refine x_al rfl rfl ?_
  refine x_c rfl ?_
  refine x_al rfl rfl ?_
  refine x_il rfl rfl ?_
  refine x_il rfl rfl ?_
  refine x_invH (as := [.ref 0, .int x, .int (bI below)]) rfl rfl rfl (Nat.le_of_ble_eq_true rfl) (Or.inl hn) (rcv_at (cw_fs (w := rW (aUp w 1438 (oE o)) m f RA RB) sp_0 hn) (by decide) (by decide)) (Nat.le_of_ble_eq_true rfl) (Nat.le_of_ble_eq_true rfl) (c_rare (a := a) (u := u) (w := rW (aUp w 1438 (oE o)) m f RA RB) hK hR hI hr hn) (fun v9 w9 hq => ?_) (fun E w9 hx => ?_)
  rotate_left
  · obtain ⟨rfl, ⟨h9, rfl⟩ | ⟨h9, rfl⟩⟩ := hx
    · refine ⟨8, _, _, _, by decide +kernel, rfl, (Nat.le_of_ble_eq_true rfl), ?_⟩
      refine x_c rfl ?_
      refine x_reti rfl (Nat.le_of_ble_eq_true rfl) (Nat.le_of_ble_eq_true rfl) rfl ?_
      exact wq_x hK hR hI h9.symm (by rw [h9]; decide) hf
    · exfalso
      revert h9
      split <;> first | decide | (split <;> decide)
  · obtain ⟨ht, rfl, F', A', L', np', nm', nc', nt', ns', nh', v', rfl, hv, hS⟩ := hq
    refine x_lasN (j := 0) rfl (lW_at (w := w) (o := o) (F := F') (A := A') (L := L') (m := m) (f := f) (RA := RA) (RB := RB) hn) (by omega) ?_
    rw [show aUp (cW (rW (aUp w 1438 (oE o)) m f RA RB) F' A' L') 1438 (.inl (1, 1, .inr (.inl (vp_updL o 0 _)))) = lW w (vp_updL o 0 _) F' A' L' m f RA RB from lW_o]
    refine x_go rfl ?_
    refine x_c rfl ?_
    refine x_reti rfl (Nat.le_of_ble_eq_true rfl) (Nat.le_of_ble_eq_true rfl) rfl ?_
    exact ⟨by rw [ht], F', A', L', _, np', nm', nc', nt', ns', nh', v', rfl, hv, hS, fun _ => pk_uLs⟩
theorem l_tear {i mk : Int32} {o : Nat → Int64} {m : Nat → Int32} {RA : Nat → Nat → Int32} {RB : Nat → Nat → Int64} (hK : KI F A f np nm v) (hR : RS F A f 6 np nm nc nt ns nh) (hI : IV f np nm nc nt ns nh) (hn : w.1 = N0) : Ev g (d + 5) 332 [.ref 0, .int i, .int mk, .ref 1438] (lW w o F A L m f RA RB) (wQ w F A m f RA RB ((tearF f mk (rowN nh i)).1) v ((tearF f mk (rowN nh i)).2.2) (((tearF f mk (rowN nh i)).2.1).toInt64)) noX := by
  have hf : ¬ (((tearF f mk (rowN nh i)).2.2) : Int32) = 0 → ((tearF f mk (rowN nh i)).1) = f := fun h => by
    unfold tearF at h ⊢
    split at h <;> simp_all
  refine ev_L_tear ?_ (Nat.le_of_ble_eq_true rfl)
  refine x_lo (lo' := [some (.ref 0), some (.int i), some (.int mk), some (.ref 1438), none]) rfl ?_
  refine x_al rfl rfl ?_
  refine x_c rfl ?_
  refine x_al rfl rfl ?_
  refine x_il rfl rfl ?_
  refine x_il rfl rfl ?_
  refine x_invH (as := [.ref 0, .int i, .int mk]) rfl rfl rfl (Nat.le_of_ble_eq_true rfl) (Or.inl hn) (rcv_at (cw_fs (w := rW (aUp w 1438 (oE o)) m f RA RB) sp_0 hn) (by decide) (by decide)) (Nat.le_of_ble_eq_true rfl) (Nat.le_of_ble_eq_true rfl) (c_tear (w := rW (aUp w 1438 (oE o)) m f RA RB) hK hR hI hn) (fun v9 w9 hq => ?_) (fun E w9 hx => ?_)
  rotate_left
  · obtain ⟨rfl, ⟨h9, rfl⟩ | ⟨h9, rfl⟩⟩ := hx
    · refine ⟨9, _, _, _, by decide +kernel, rfl, (Nat.le_of_ble_eq_true rfl), ?_⟩
      refine x_c rfl ?_
      refine x_reti rfl (Nat.le_of_ble_eq_true rfl) (Nat.le_of_ble_eq_true rfl) rfl ?_
      exact wq_x hK hR hI h9.symm (by rw [h9]; decide) hf
    · exfalso
      unfold tearF at h9
      split at h9 <;> simp_all
  · obtain ⟨ht, rfl, F', A', L', np', nm', nc', nt', ns', nh', v', rfl, hv, hS⟩ := hq
    refine x_i2l rfl ?_
    refine x_lasN (j := 0) rfl (lW_at (w := w) (o := o) (F := F') (A := A') (L := L') (m := m) (f := f) (RA := RA) (RB := RB) hn) (by omega) ?_
    rw [show aUp (cW (rW (aUp w 1438 (oE o)) m f RA RB) F' A' L') 1438 (.inl (1, 1, .inr (.inl (vp_updL o 0 _)))) = lW w (vp_updL o 0 _) F' A' L' m f RA RB from lW_o]
    refine x_go rfl ?_
    refine x_c rfl ?_
    refine x_reti rfl (Nat.le_of_ble_eq_true rfl) (Nat.le_of_ble_eq_true rfl) rfl ?_
    exact ⟨by rw [ht], F', A', L', _, np', nm', nc', nt', ns', nh', v', rfl, hv, hS, fun _ => pk_uLs⟩
end CALLS
