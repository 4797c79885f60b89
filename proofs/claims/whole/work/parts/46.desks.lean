/-! compares and desks -/
theorem cmp_e {f : Nat → Int32} {n k x p h : Nat} (hp : p < 60) (hh : h ≤ 200) (e1 : f (6607 + 26 * (x / 10) + (6 + x % 10)) = nI p) (e2 : f 11424 = nI h) : cmpF f n k x = if vM (cm1 f k x) n k p (f 0) = 0 ∨ h = 200 then cm1 f k x else hitW (cm1 f k x) h k x (vM (cm1 f k x) n k p (f 0)) (layMk (cm1 f k x) k p).1 := by
  have c1 : cN (f (6607 + 26 * (x / 10) + (6 + x % 10))) = p := by rw [e1]; exact nI_clamp (by omega)
  have c2 : cN (f 11424) = h := by rw [e2]; exact nI_clamp (by omega)
  unfold cmpF
  rw [c1, c2, e2]
  have : (nI h = 200) ↔ h = 200 := nI_eq (b := 200) (by omega) (by omega)
  by_cases hc : vM (cm1 f k x) n k p (f 0) = 0 ∨ h = 200
  · rw [if_pos hc, if_pos (hc.imp id this.mpr)]
  · rw [if_neg hc, if_neg (fun hx => hc (hx.imp id this.mp))]
theorem cmp_ag {f : Nat → Int32} {n k x : Nat} (hk : k < 20) (hx : x < 160) (hf : FO (f (6607 + 26 * (x / 10) + (6 + x % 10)))) (h0 : 0 ≤ f (6607 + 26 * (x / 10) + (6 + x % 10))) (hh : ∃ h, h ≤ 200 ∧ f 11424 = nI h) : agD f (cmpF f n k x) ∧ ∃ h, h ≤ 200 ∧ cmpF f n k x 11424 = nI h := by
  obtain ⟨h, h2, eh⟩ := hh
  rcases hf with hf | ⟨p, hp, ep⟩
  · exact absurd hf (Int32.not_lt.mpr h0)
  rw [cmp_e hp h2 ep eh]
  have e1 : cm1 f k x 11424 = f 11424 := by
    unfold cm1
    rw [pk_un (by omega), pk_un (by omega)]
  by_cases hc : vM (cm1 f k x) n k p (f 0) = 0 ∨ h = 200
  · rw [if_pos hc]
    exact ⟨cm1_ag hk hx, h, h2, by rw [e1, eh]⟩
  · rw [if_neg hc]
    have h200 : h ≠ 200 := fun e => hc (Or.inr e)
    exact ⟨agD_t (cm1_ag hk hx) (hitW_ag (by omega)), h + 1, by omega, by unfold hitW; rw [pk_us]⟩
def dkS (n k : Nat) (f : Nat → Int32) : Nat → (Nat → Int32) × Nat → ((Nat → Int32) × Nat) ⊕ ((Nat → Int32) × Nat) := fun x s => if s.2 = 0 then .inr s else if wtP s.1 k x then .inl (cmpF s.1 n k x, s.2 - 1) else .inl s
section DESK
variable {g : aG} {d : Nat} {w : aW} {m f : Nat → Int32} {A : Nat → Nat → Int32} {B : Nat → Nat → Int64}
theorem n_compares {n nc nm ns k x : Nat} (hD : DI f n nc nm ns) (hk : k < 20) (hx : x < 10 * nc) (h0 : 0 ≤ f (6607 + 26 * (x / 10) + (6 + x % 10))) (hn : w.1 = N0) : Ev g (d + 15) 285 [.ref 1424, .int (nI k), .int (nI x)] (rW w m f A B) (fun v w' => v = none ∧ ∃ m' A', w' = rW w m' (cmpF f n k x) A' B ∧ keepS m m' ∧ keepB A A') noX := by
  have hD0 := hD
  obtain ⟨hT, hW, hF1, h5, h6, hs, h200, h, hh, eh⟩ := hD
  have hnc := hF1.2.1
  have hx2 : x / 10 < nc := by omega
  have hx3 : x % 10 < 10 := by omega
  rcases hF1.2.2 _ hx2 _ hx3 with hf | ⟨p, hp, ep⟩
  · exact absurd hf (Int32.not_lt.mpr h0)
  rw [cmp_e hp hh ep eh]
  have ag := cm1_ag (f := f) hk (show x < 160 by omega)
  have eh1 : cm1 f k x 11424 = nI h := by
    rw [← eh]
    unfold cm1
    rw [pk_un (by omega), pk_un (by omega)]
  have hD1 : DI (cm1 f k x) n nc nm ns := DI_c ag ⟨h, hh, eh1⟩ hD0
  have e0 : cm1 f k x 0 = f 0 := ag 0 (by unfold dkC; omega)
  refine ev_X11_compares ?_ (Nat.le_of_ble_eq_true rfl)
  refine x_lo (lo' := [some (.ref 1424), some (.int (nI k)), some (.int (nI x)), none, none, none, none, none]) rfl ?_
  refine x_il rfl rfl ?_
  refine x_c rfl ?_
  refine x_divN (y := 10) rfl (by omega) ?_
  refine x_is (lo' := [_, _, _, _, _, _, _, _]) rfl (Nat.le_of_ble_eq_true rfl) rfl ?_
  refine x_il rfl rfl ?_
  refine x_c rfl ?_
  refine x_remN (y := 10) rfl (by omega) ?_
  refine x_is (lo' := [_, _, _, _, _, _, _, _]) rfl (Nat.le_of_ble_eq_true rfl) rfl ?_
  refine x_al rfl rfl ?_
  refine x_get rfl (rw_md hn) (by exact rfl) ?_
  refine x_il rfl rfl ?_
  refine x_il rfl rfl ?_
  refine x_il rfl rfl ?_
  refine x_call3 (m_comparedAt) rfl (Nat.le_of_ble_eq_true rfl) (Or.inl (by first | exact hn | assumption)) trivial (Nat.le_of_ble_eq_true rfl) (Nat.le_of_ble_eq_true rfl) (fun E w9 hq => hq.elim) ?_
  rintro v9 w9 ⟨rfl, rfl⟩
  refine x_c rfl ?_
  first | refine x_iasW rfl hn (by omega) ?_ | refine x_iasA rfl hn (by exact rfl) (by omega) ?_
  refine x_al rfl rfl ?_
  refine x_get rfl (rw_md hn) (by exact rfl) ?_
  refine x_c rfl ?_
  refine x_dup2 rfl rfl rfl ?_
  refine x_iaN (j := 3) rfl (by first | exact rw_md hn | exact rw_w hn | exact rw_A hn (by exact rfl) | exact rw_B2 hn | exact rw_B3 hn | assumption) (by omega) ?_
  refine x_c rfl ?_
  refine x_add rfl ?_
  first | refine x_iasW (j := 3) rfl hn (by omega) ?_ | refine x_iasA (j := 3) rfl hn (by exact rfl) (by omega) ?_
  refine x_al rfl rfl ?_
  refine x_il rfl rfl ?_
  refine x_al rfl rfl ?_
  refine x_il rfl rfl ?_
  refine x_c rfl ?_
  refine x_il rfl rfl ?_
  refine x_addN (x := 6) rfl ?_
  rw [show upd (upd f (7023 + 10 * (16 * k + x / 10) + x % 10) 1) 3 (upd f (7023 + 10 * (16 * k + x / 10) + x % 10) 1 3 + 1) = cm1 f k x from rfl]
  rw [← e0]
  generalize cm1 f k x = f1 at *
  have ep1 : f1 (6607 + 26 * (x / 10) + (6 + x % 10)) = nI p := (ag _ (by unfold dkC; omega)).trans ep
  refine x_call3 (n_of (by omega) hn) rfl (Nat.le_of_ble_eq_true rfl) (Or.inl (by first | exact hn | assumption)) (rcv_at (by first | exact rw_md hn | exact rw_w hn | exact rw_A hn (by exact rfl) | exact rw_B2 hn | exact rw_B3 hn | assumption) (by decide) (by decide)) (Nat.le_of_ble_eq_true rfl) (Nat.le_of_ble_eq_true rfl) (fun E w9 hq => hq.elim) ?_
  rintro v9 w9 ⟨rfl, rfl⟩
  refine x_al rfl rfl ?_
  rw [ep1]
  refine x_call1 (n_today hn) rfl (Nat.le_of_ble_eq_true rfl) (Or.inl (by first | exact hn | assumption)) (rcv_at (by first | exact rw_md hn | exact rw_w hn | exact rw_A hn (by exact rfl) | exact rw_B2 hn | exact rw_B3 hn | assumption) (by decide) (by decide)) (Nat.le_of_ble_eq_true rfl) (Nat.le_of_ble_eq_true rfl) (fun E w9 hq => hq.elim) ?_
  rintro v9 w9 ⟨rfl, rfl⟩
  refine x_call4 (n_looksM hD1.2.1 hk hp hn) rfl (Nat.le_of_ble_eq_true rfl) (Or.inl (by first | exact hn | assumption)) (rcv_at (by first | exact rw_md hn | exact rw_w hn | exact rw_A hn (by exact rfl) | exact rw_B2 hn | exact rw_B3 hn | assumption) (by decide) (by decide)) (Nat.le_of_ble_eq_true rfl) (Nat.le_of_ble_eq_true rfl) (fun E w9 hq => hq.elim) ?_
  rintro v9 w9 ⟨M', A2, rfl, hk', hA', rfl, hBM, hFc⟩
  refine x_al rfl rfl ?_
  refine x_al rfl rfl ?_
  refine x_call1 (n_today hn) rfl (Nat.le_of_ble_eq_true rfl) (Or.inl (by first | exact hn | assumption)) (rcv_at (by first | exact rw_md hn | exact rw_w hn | exact rw_A hn (by exact rfl) | exact rw_B2 hn | exact rw_B3 hn | assumption) (by decide) (by decide)) (Nat.le_of_ble_eq_true rfl) (Nat.le_of_ble_eq_true rfl) (fun E w9 hq => hq.elim) ?_
  rintro v9 w9 ⟨rfl, rfl⟩
  refine x_call2 (n_judges hD1.1 hFc hn) rfl (Nat.le_of_ble_eq_true rfl) (Or.inl (by first | exact hn | assumption)) (rcv_at (by first | exact rw_md hn | exact rw_w hn | exact rw_A hn (by exact rfl) | exact rw_B2 hn | exact rw_B3 hn | assumption) (by decide) (by decide)) (Nat.le_of_ble_eq_true rfl) (Nat.le_of_ble_eq_true rfl) (fun E w9 hq => hq.elim) ?_
  rintro v9 w9 ⟨rfl, mt, rfl⟩
  refine x_is (lo' := [_, _, _, _, _, _, _, _]) rfl (Nat.le_of_ble_eq_true rfl) rfl ?_
  refine x_al rfl rfl ?_
  refine x_get rfl (rw_md hn) (by exact rfl) ?_
  refine x_c rfl ?_
  refine x_iaN (j := 11424) rfl (by first | exact rw_md hn | exact rw_w hn | exact rw_A hn (by exact rfl) | exact rw_B2 hn | exact rw_B3 hn | assumption) (by omega) ?_
  rw [eh1]
  refine x_is (lo' := [_, _, _, _, _, _, _, _]) rfl (Nat.le_of_ble_eq_true rfl) rfl ?_
  refine x_il rfl rfl ?_
  rw [show judF f1 (bestT f1 (f1 0) n) (tgM f1 k) (fcM f1 k p (f1 0)) = vM f1 n k p (f1 0) from rfl]
  have hA2 : keepB A (udA A2 1436 mt) := keepB_t hA' (keepB_u (by decide))
  generalize vM f1 n k p (f1 0) = v at *
  have stay : (v = 0 ∨ h = 200) → ∀ l7, EX g mbOf (Ev g (d + 14)) (infoOf 285) k_X11_compares (fun v0 w' => v0 = none ∧ ∃ m' A', w' = rW w m' (if v = 0 ∨ h = 200 then f1 else hitW f1 h k x v (layMk f1 k p).1) A' B ∧ keepS m m' ∧ keepB A A') noX w.1 (rW w M' f1 (udA A2 1436 mt) B) 0 0 50 [some (.ref 1424), some (.int (nI k)), some (.int (nI x)), some (.int (nI (x / 10))), some (.int (nI (x % 10))), some (.int v), some (.int (nI h)), l7] [] := by
    intro e l7
    refine x_retv rfl (Nat.le_of_ble_eq_true rfl) (Nat.le_of_ble_eq_true rfl) rfl ?_
    rw [if_pos e]
    exact ⟨rfl, _, _, rfl, hk', hA2⟩
  refine x_ifeq rfl (fun c1 => ?_) (fun c1 => ?_)
  · skip
    exact stay (Or.inl c1) _
  refine x_il rfl rfl ?_
  refine x_c rfl ?_
  refine x_icneN (y := 200) rfl (by omega) (fun c2 => ?_) (fun c2 => ?_)
  rotate_left
  · skip
    exact stay (Or.inr c2) _
  refine x_c rfl ?_
  refine x_c rfl ?_
  refine x_il rfl rfl ?_
  refine x_mulN (x := 7) rfl ?_
  refine x_addN (x := 11425) rfl ?_
  refine x_is (lo' := [_, _, _, _, _, _, _, _]) rfl (Nat.le_of_ble_eq_true rfl) rfl ?_
  refine x_al rfl rfl ?_
  refine x_get rfl (rw_md hn) (by exact rfl) ?_
  refine x_il rfl rfl ?_
  refine x_il rfl rfl ?_
  first | refine x_iasW rfl hn (by omega) ?_ | refine x_iasA rfl hn (by exact rfl) (by omega) ?_
  refine x_al rfl rfl ?_
  refine x_get rfl (rw_md hn) (by exact rfl) ?_
  refine x_il rfl rfl ?_
  refine x_c rfl ?_
  refine x_addN (y := 1) rfl ?_
  refine x_il rfl rfl ?_
  first | refine x_iasW rfl hn (by omega) ?_ | refine x_iasA rfl hn (by exact rfl) (by omega) ?_
  refine x_al rfl rfl ?_
  refine x_get rfl (rw_md hn) (by exact rfl) ?_
  refine x_il rfl rfl ?_
  refine x_c rfl ?_
  refine x_addN (y := 2) rfl ?_
  refine x_il rfl rfl ?_
  first | refine x_iasW rfl hn (by omega) ?_ | refine x_iasA rfl hn (by exact rfl) (by omega) ?_
  refine x_al rfl rfl ?_
  refine x_get rfl (rw_md hn) (by exact rfl) ?_
  refine x_il rfl rfl ?_
  refine x_c rfl ?_
  refine x_addN (y := 3) rfl ?_
  refine x_il rfl rfl ?_
  first | refine x_iasW rfl hn (by omega) ?_ | refine x_iasA rfl hn (by exact rfl) (by omega) ?_
  refine x_al rfl rfl ?_
  refine x_get rfl (rw_md hn) (by exact rfl) ?_
  refine x_il rfl rfl ?_
  refine x_c rfl ?_
  refine x_addN (y := 4) rfl ?_
  refine x_al rfl rfl ?_
  refine x_get rfl (rw_md hn) (by exact rfl) ?_
  rw [hBM.1]
  first | refine x_iasW rfl hn (by omega) ?_ | refine x_iasA rfl hn (by exact rfl) (by omega) ?_
  refine x_al rfl rfl ?_
  refine x_get rfl (rw_md hn) (by exact rfl) ?_
  refine x_il rfl rfl ?_
  refine x_c rfl ?_
  refine x_addN (y := 5) rfl ?_
  refine x_al rfl rfl ?_
  refine x_call1 (n_today hn) rfl (Nat.le_of_ble_eq_true rfl) (Or.inl (by first | exact hn | assumption)) (rcv_at (by first | exact rw_md hn | exact rw_w hn | exact rw_A hn (by exact rfl) | exact rw_B2 hn | exact rw_B3 hn | assumption) (by decide) (by decide)) (Nat.le_of_ble_eq_true rfl) (Nat.le_of_ble_eq_true rfl) (fun E w9 hq => hq.elim) ?_
  rintro v9 w9 ⟨rfl, rfl⟩
  refine x_eq (y := f1 0) ?_ ?_
  · rw [pk_un (by omega), pk_un (by omega), pk_un (by omega), pk_un (by omega), pk_un (by omega)]
  first | refine x_iasW rfl hn (by omega) ?_ | refine x_iasA rfl hn (by exact rfl) (by omega) ?_
  refine x_al rfl rfl ?_
  refine x_get rfl (rw_md hn) (by exact rfl) ?_
  refine x_il rfl rfl ?_
  refine x_c rfl ?_
  refine x_addN (y := 6) rfl ?_
  refine x_al rfl rfl ?_
  refine x_get rfl (rw_md hn) (by exact rfl) ?_
  rw [hBM.1]
  first | refine x_iasW rfl hn (by omega) ?_ | refine x_iasA rfl hn (by exact rfl) (by omega) ?_
  refine x_al rfl rfl ?_
  refine x_get rfl (rw_md hn) (by exact rfl) ?_
  refine x_c rfl ?_
  refine x_dup2 rfl rfl rfl ?_
  refine x_iaN (j := 11424) rfl (by first | exact rw_md hn | exact rw_w hn | exact rw_A hn (by exact rfl) | exact rw_B2 hn | exact rw_B3 hn | assumption) (by omega) ?_
  refine x_eq (y := nI h) ?_ ?_
  · rw [pk_un (by omega), pk_un (by omega), pk_un (by omega), pk_un (by omega), pk_un (by omega), pk_un (by omega), pk_un (by omega), eh1]
  refine x_c rfl ?_
  refine x_addN (y := 1) rfl ?_
  first | refine x_iasW (j := 11424) rfl hn (by omega) ?_ | refine x_iasA (j := 11424) rfl hn (by exact rfl) (by omega) ?_
  refine x_retv rfl (Nat.le_of_ble_eq_true rfl) (Nat.le_of_ble_eq_true rfl) rfl ?_
  rw [if_neg (fun h => h.elim c1 c2)]
  exact ⟨rfl, _, _, rfl, hk', hA2⟩
end DESK
