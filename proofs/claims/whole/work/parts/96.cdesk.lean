/-! the desk; cw_ -/
section CALLS
variable {g : aG} {d : Nat} {w : aW} {F A : Nat → Nat → Int32} {L : Nat → Int64} {f : Nat → Int32} {np nm nc nt ns nh v : Nat}
theorem c_openHit (hT : RsTab F A 19 7 11425 f nh) (h200 : nh ≤ 200) (hn : w.1 = N0) : Ev g (d + 2) 86 [.ref 19] (cW w F A L) (fun r w' => if 200 ≤ nh then r = some (.int (-1)) ∧ w' = cW w F A L else r = some (.int (nI nh)) ∧ w' = cW w (udA F 19 (upd (F 19) 3 (nI (nh + 1)))) A L) noX := by
  have h := m_open (g := g) (d := d) (cw_tab (w := w) (A := A) (L := L) tbH hT.1 h200 (by decide) (by decide) hn) hn
  have e : aUp (cW w F A L) 19 (.inr (8, [.int (nI 200), .int (nI 7), .ref (19 + 1), .int (nI (nh + 1))])) = cW w (udA F 19 (upd (F 19) 3 (nI (nh + 1)))) A L := cw_uF (h1 := upd (F 19) 3 (nI (nh + 1))) tbH.1
  rw [e] at h
  exact h
theorem c_openSay (hT : RsTab F A 17 6 10224 f ns) (h200 : ns ≤ 200) (hn : w.1 = N0) : Ev g (d + 2) 86 [.ref 17] (cW w F A L) (fun r w' => if 200 ≤ ns then r = some (.int (-1)) ∧ w' = cW w F A L else r = some (.int (nI ns)) ∧ w' = cW w (udA F 17 (upd (F 17) 3 (nI (ns + 1)))) A L) noX := by
  have h := m_open (g := g) (d := d) (cw_tab (w := w) (A := A) (L := L) tbS hT.1 h200 (by decide) (by decide) hn) hn
  have e : aUp (cW w F A L) 17 (.inr (8, [.int (nI 200), .int (nI 6), .ref (17 + 1), .int (nI (ns + 1))])) = cW w (udA F 17 (upd (F 17) 3 (nI (ns + 1)))) A L := cw_uF (h1 := upd (F 17) 3 (nI (ns + 1))) tbS.1
  rw [e] at h
  exact h
theorem c_putHit {r c n : Nat} {x : Int32} (h3 : F 19 3 = nI n) (h200 : n ≤ 200) (hr : r < n) (hc : c < 7) (hn : w.1 = N0) : Ev g (d + 2) 89 [.ref 19, .int (nI r), .int (nI c), .int x] (cW w F A L) (VoidQ (cW w F (udA A 20 (upd (A 20) (r * 7 + c) x)) L)) noX := by
  have h := m_put (g := g) (d := d) (v := x) (cw_tab (w := w) (A := A) (L := L) tbH h3 h200 (by decide) (by decide) hn) hr hc hn
  rw [show aUp (cW w F A L) (19 + 1) (.inl (0, 200 * 7, .inl (upd (A (19 + 1)) (r * 7 + c) x))) = cW w F (udA A 20 (upd (A 20) (r * 7 + c) x)) L from cw_uA tbH.2] at h
  exact h
theorem c_putSay {r c n : Nat} {x : Int32} (h3 : F 17 3 = nI n) (h200 : n ≤ 200) (hr : r < n) (hc : c < 6) (hn : w.1 = N0) : Ev g (d + 2) 89 [.ref 17, .int (nI r), .int (nI c), .int x] (cW w F A L) (VoidQ (cW w F (udA A 18 (upd (A 18) (r * 6 + c) x)) L)) noX := by
  have h := m_put (g := g) (d := d) (v := x) (cw_tab (w := w) (A := A) (L := L) tbS h3 h200 (by decide) (by decide) hn) hr hc hn
  rw [show aUp (cW w F A L) (17 + 1) (.inl (0, 200 * 6, .inl (upd (A (17 + 1)) (r * 6 + c) x))) = cW w F (udA A 18 (upd (A 18) (r * 6 + c) x)) L from cw_uA tbS.2] at h
  exact h
theorem c_putNo {c : Int32} {x : Int32} {n : Nat} (h3 : F 19 3 = nI n) (hn : w.1 = N0) : Ev g (d + 2) 89 [.ref 19, .int (-1), .int c, .int x] (cW w F A L) (VoidQ (cW w F A L)) noX := by
  have ht := cw_fs (w := w) (F := F) (A := A) (L := L) tbH.1 hn
  rw [show mkL (F 19) 0 [some (.int (nI 200)), some (.int (nI 7)), rfO (19 + 1), none] = [.int (nI 200), .int (nI 7), .ref (19 + 1), .int (F 19 3)] from rfl, h3] at ht
  refine ev_X8_put ?_ (Nat.le_of_ble_eq_true rfl)
  refine x_lo (lo' := [some (.ref 19), some (.int (-1)), some (.int c), some (.int x)]) rfl ?_
  refine x_al rfl rfl ?_
  refine x_il rfl rfl ?_
  refine x_il rfl rfl ?_
  refine x_call3 (m_hasCell ht) rfl (Nat.le_of_ble_eq_true rfl) (Or.inl (by first | exact hn | assumption)) (rcv_at (cw_fs (by with_reducible exact tb_0 (by first | assumption | exact tbS | exact tbH)) hn) (by decide) (by decide)) (Nat.le_of_ble_eq_true rfl) (Nat.le_of_ble_eq_true rfl) (fun E w9 hq => hq.elim) ?_
  rintro v9 w9 ⟨rfl, rfl⟩
  refine x_ifeq rfl (fun e9 => ?_) (fun e9 => absurd (bI_f (fun h => absurd h.1 (by decide))) e9)
  refine x_retv rfl (Nat.le_of_ble_eq_true rfl) (Nat.le_of_ble_eq_true rfl) rfl ?_
  exact ⟨rfl, rfl⟩
/-- a hit is written down -/
def hitR (A : Nat → Nat → Int32) (h : Nat) (k c j v p t : Int32) : Nat → Int32 := upd (upd (upd (upd (upd (upd (upd (A 20) (h * 7 + 0) k) (h * 7 + 1) c) (h * 7 + 2) j) (h * 7 + 3) v) (h * 7 + 4) p) (h * 7 + 5) t) (h * 7 + 6) p
theorem c_keepHit {k c j x p : Int32} (hT : RsTab F A 19 7 11425 f nh) (h200 : nh ≤ 200) (hp : F 1396 0 = p) (hn : w.1 = N0) : Ev g (d + 3) 156 [.ref 0, .int k, .int c, .int j, .int x] (cW w F A L) (VoidQ (if 200 ≤ nh then cW w F A L else cW w (udA F 19 (upd (F 19) 3 (nI (nh + 1)))) (udA A 20 (hitR A nh k c j x p (F 6 0))) L)) noX := by
  refine ev_X10_keepHit ?_ (Nat.le_of_ble_eq_true rfl)
  refine x_lo (lo' := [some (.ref 0), some (.int k), some (.int c), some (.int j), some (.int x), none, none]) rfl ?_
  refine x_al rfl rfl ?_
  refine x_getC rfl hn (by with_reducible exact sp_0) (by exact rfl) ?_
  refine x_getC rfl hn (by with_reducible exact (by first | exact sp_6 | exact st_0 (by assumption))) (by exact rfl) ?_
  refine x_as (lo' := [_, _, _, _, _, _, _]) rfl (Nat.le_of_ble_eq_true rfl) rfl ?_
  refine x_al rfl rfl ?_
  by_cases hf : 200 ≤ nh
  · rw [if_pos hf]
    have ho := c_openHit (g := g) (d := d) (w := w) (L := L) hT h200 hn
    simp only [if_pos hf] at ho
    refine x_call1 (ho) rfl (Nat.le_of_ble_eq_true rfl) (Or.inl (by first | exact hn | assumption)) (rcv_at (cw_fs (by with_reducible exact tb_0 (by first | assumption | exact tbS | exact tbH)) hn) (by decide) (by decide)) (Nat.le_of_ble_eq_true rfl) (Nat.le_of_ble_eq_true rfl) (fun E w9 hq => hq.elim) ?_
    rintro v9 w9 ⟨rfl, rfl⟩
    refine x_is (lo' := [_, _, _, _, _, _, _]) rfl (Nat.le_of_ble_eq_true rfl) rfl ?_
    refine x_al rfl rfl ?_
    refine x_il rfl rfl ?_
    refine x_c rfl ?_
    refine x_il rfl rfl ?_
    refine x_call4 (c_putNo hT.1 hn) rfl (Nat.le_of_ble_eq_true rfl) (Or.inl (by first | exact hn | assumption)) (rcv_at (cw_fs (by with_reducible exact tb_0 (by first | assumption | exact tbS | exact tbH)) hn) (by decide) (by decide)) (Nat.le_of_ble_eq_true rfl) (Nat.le_of_ble_eq_true rfl) (fun E w9 hq => hq.elim) ?_
    rintro v9 w9 ⟨rfl, rfl⟩
    refine x_al rfl rfl ?_
    refine x_il rfl rfl ?_
    refine x_c rfl ?_
    refine x_il rfl rfl ?_
    refine x_call4 (c_putNo hT.1 hn) rfl (Nat.le_of_ble_eq_true rfl) (Or.inl (by first | exact hn | assumption)) (rcv_at (cw_fs (by with_reducible exact tb_0 (by first | assumption | exact tbS | exact tbH)) hn) (by decide) (by decide)) (Nat.le_of_ble_eq_true rfl) (Nat.le_of_ble_eq_true rfl) (fun E w9 hq => hq.elim) ?_
    rintro v9 w9 ⟨rfl, rfl⟩
    refine x_al rfl rfl ?_
    refine x_il rfl rfl ?_
    refine x_c rfl ?_
    refine x_il rfl rfl ?_
    refine x_call4 (c_putNo hT.1 hn) rfl (Nat.le_of_ble_eq_true rfl) (Or.inl (by first | exact hn | assumption)) (rcv_at (cw_fs (by with_reducible exact tb_0 (by first | assumption | exact tbS | exact tbH)) hn) (by decide) (by decide)) (Nat.le_of_ble_eq_true rfl) (Nat.le_of_ble_eq_true rfl) (fun E w9 hq => hq.elim) ?_
    rintro v9 w9 ⟨rfl, rfl⟩
    refine x_al rfl rfl ?_
    refine x_il rfl rfl ?_
    refine x_c rfl ?_
    refine x_il rfl rfl ?_
    refine x_call4 (c_putNo hT.1 hn) rfl (Nat.le_of_ble_eq_true rfl) (Or.inl (by first | exact hn | assumption)) (rcv_at (cw_fs (by with_reducible exact tb_0 (by first | assumption | exact tbS | exact tbH)) hn) (by decide) (by decide)) (Nat.le_of_ble_eq_true rfl) (Nat.le_of_ble_eq_true rfl) (fun E w9 hq => hq.elim) ?_
    rintro v9 w9 ⟨rfl, rfl⟩
    refine x_al rfl rfl ?_
    refine x_il rfl rfl ?_
    refine x_c rfl ?_
    refine x_al rfl rfl ?_
    refine x_getC rfl hn (by with_reducible exact sp_0) (by exact rfl) ?_
    refine x_getC rfl hn (by with_reducible exact sp_1396) (by exact rfl) ?_
    refine x_call4 (c_putNo hT.1 hn) rfl (Nat.le_of_ble_eq_true rfl) (Or.inl (by first | exact hn | assumption)) (rcv_at (cw_fs (by with_reducible exact tb_0 (by first | assumption | exact tbS | exact tbH)) hn) (by decide) (by decide)) (Nat.le_of_ble_eq_true rfl) (Nat.le_of_ble_eq_true rfl) (fun E w9 hq => hq.elim) ?_
    rintro v9 w9 ⟨rfl, rfl⟩
    refine x_al rfl rfl ?_
    refine x_il rfl rfl ?_
    refine x_c rfl ?_
    refine x_al rfl rfl ?_
    refine x_getC rfl hn (by with_reducible exact sp_0) (by exact rfl) ?_
    refine x_getC rfl hn (by with_reducible exact (by first | exact sp_6 | exact st_0 (by assumption))) (by exact rfl) ?_
    refine x_call4 (c_putNo hT.1 hn) rfl (Nat.le_of_ble_eq_true rfl) (Or.inl (by first | exact hn | assumption)) (rcv_at (cw_fs (by with_reducible exact tb_0 (by first | assumption | exact tbS | exact tbH)) hn) (by decide) (by decide)) (Nat.le_of_ble_eq_true rfl) (Nat.le_of_ble_eq_true rfl) (fun E w9 hq => hq.elim) ?_
    rintro v9 w9 ⟨rfl, rfl⟩
    refine x_al rfl rfl ?_
    refine x_il rfl rfl ?_
    refine x_c rfl ?_
    refine x_al rfl rfl ?_
    refine x_getC rfl hn (by with_reducible exact sp_0) (by exact rfl) ?_
    refine x_getC rfl hn (by with_reducible exact sp_1396) (by exact rfl) ?_
    refine x_call4 (c_putNo hT.1 hn) rfl (Nat.le_of_ble_eq_true rfl) (Or.inl (by first | exact hn | assumption)) (rcv_at (cw_fs (by with_reducible exact tb_0 (by first | assumption | exact tbS | exact tbH)) hn) (by decide) (by decide)) (Nat.le_of_ble_eq_true rfl) (Nat.le_of_ble_eq_true rfl) (fun E w9 hq => hq.elim) ?_
    rintro v9 w9 ⟨rfl, rfl⟩
    refine x_retv rfl (Nat.le_of_ble_eq_true rfl) (Nat.le_of_ble_eq_true rfl) rfl ?_
    exact ⟨rfl, rfl⟩
  · rw [if_neg hf]
    have ho := c_openHit (g := g) (d := d) (w := w) (L := L) hT h200 hn
    simp only [if_neg hf] at ho
    have e3 : udA F 19 (upd (F 19) 3 (nI (nh + 1))) 19 3 = nI (nh + 1) := rfl
    refine x_call1 (ho) rfl (Nat.le_of_ble_eq_true rfl) (Or.inl (by first | exact hn | assumption)) (rcv_at (cw_fs (by with_reducible exact tb_0 (by first | assumption | exact tbS | exact tbH)) hn) (by decide) (by decide)) (Nat.le_of_ble_eq_true rfl) (Nat.le_of_ble_eq_true rfl) (fun E w9 hq => hq.elim) ?_
    rintro v9 w9 ⟨rfl, rfl⟩
    refine x_is (lo' := [_, _, _, _, _, _, _]) rfl (Nat.le_of_ble_eq_true rfl) rfl ?_
    refine x_al rfl rfl ?_
    refine x_il rfl rfl ?_
    refine x_c rfl ?_
    refine x_il rfl rfl ?_
    refine x_call4 (c_putHit (c := 0) e3 (by omega) (Nat.lt_succ_self _) (by decide) hn) rfl (Nat.le_of_ble_eq_true rfl) (Or.inl (by first | exact hn | assumption)) (rcv_at (cw_fs (by with_reducible exact tb_0 (by first | assumption | exact tbS | exact tbH)) hn) (by decide) (by decide)) (Nat.le_of_ble_eq_true rfl) (Nat.le_of_ble_eq_true rfl) (fun E w9 hq => hq.elim) ?_
    rintro v9 w9 ⟨rfl, rfl⟩
    refine x_al rfl rfl ?_
    refine x_il rfl rfl ?_
    refine x_c rfl ?_
    refine x_il rfl rfl ?_
    refine x_call4 (c_putHit (c := 1) e3 (by omega) (Nat.lt_succ_self _) (by decide) hn) rfl (Nat.le_of_ble_eq_true rfl) (Or.inl (by first | exact hn | assumption)) (rcv_at (cw_fs (by with_reducible exact tb_0 (by first | assumption | exact tbS | exact tbH)) hn) (by decide) (by decide)) (Nat.le_of_ble_eq_true rfl) (Nat.le_of_ble_eq_true rfl) (fun E w9 hq => hq.elim) ?_
    rintro v9 w9 ⟨rfl, rfl⟩
    refine x_al rfl rfl ?_
    refine x_il rfl rfl ?_
    refine x_c rfl ?_
    refine x_il rfl rfl ?_
    refine x_call4 (c_putHit (c := 2) e3 (by omega) (Nat.lt_succ_self _) (by decide) hn) rfl (Nat.le_of_ble_eq_true rfl) (Or.inl (by first | exact hn | assumption)) (rcv_at (cw_fs (by with_reducible exact tb_0 (by first | assumption | exact tbS | exact tbH)) hn) (by decide) (by decide)) (Nat.le_of_ble_eq_true rfl) (Nat.le_of_ble_eq_true rfl) (fun E w9 hq => hq.elim) ?_
    rintro v9 w9 ⟨rfl, rfl⟩
    refine x_al rfl rfl ?_
    refine x_il rfl rfl ?_
    refine x_c rfl ?_
    refine x_il rfl rfl ?_
    refine x_call4 (c_putHit (c := 3) e3 (by omega) (Nat.lt_succ_self _) (by decide) hn) rfl (Nat.le_of_ble_eq_true rfl) (Or.inl (by first | exact hn | assumption)) (rcv_at (cw_fs (by with_reducible exact tb_0 (by first | assumption | exact tbS | exact tbH)) hn) (by decide) (by decide)) (Nat.le_of_ble_eq_true rfl) (Nat.le_of_ble_eq_true rfl) (fun E w9 hq => hq.elim) ?_
    rintro v9 w9 ⟨rfl, rfl⟩
    refine x_al rfl rfl ?_
    refine x_il rfl rfl ?_
    refine x_c rfl ?_
    refine x_al rfl rfl ?_
    refine x_getC rfl hn (by with_reducible exact sp_0) (by exact rfl) ?_
    refine x_getC rfl hn (by with_reducible exact sp_1396) (by exact rfl) ?_
    rw [show udA F 19 (upd (F 19) 3 (nI (nh + 1))) 1396 0 = p from hp]
    refine x_call4 (c_putHit (c := 4) e3 (by omega) (Nat.lt_succ_self _) (by decide) hn) rfl (Nat.le_of_ble_eq_true rfl) (Or.inl (by first | exact hn | assumption)) (rcv_at (cw_fs (by with_reducible exact tb_0 (by first | assumption | exact tbS | exact tbH)) hn) (by decide) (by decide)) (Nat.le_of_ble_eq_true rfl) (Nat.le_of_ble_eq_true rfl) (fun E w9 hq => hq.elim) ?_
    rintro v9 w9 ⟨rfl, rfl⟩
    refine x_al rfl rfl ?_
    refine x_il rfl rfl ?_
    refine x_c rfl ?_
    refine x_al rfl rfl ?_
    refine x_getC rfl hn (by with_reducible exact sp_0) (by exact rfl) ?_
    refine x_getC rfl hn (by with_reducible exact (by first | exact sp_6 | exact st_0 (by assumption))) (by exact rfl) ?_
    rw [show udA F 19 (upd (F 19) 3 (nI (nh + 1))) 6 0 = F 6 0 from rfl]
    refine x_call4 (c_putHit (c := 5) e3 (by omega) (Nat.lt_succ_self _) (by decide) hn) rfl (Nat.le_of_ble_eq_true rfl) (Or.inl (by first | exact hn | assumption)) (rcv_at (cw_fs (by with_reducible exact tb_0 (by first | assumption | exact tbS | exact tbH)) hn) (by decide) (by decide)) (Nat.le_of_ble_eq_true rfl) (Nat.le_of_ble_eq_true rfl) (fun E w9 hq => hq.elim) ?_
    rintro v9 w9 ⟨rfl, rfl⟩
    refine x_al rfl rfl ?_
    refine x_il rfl rfl ?_
    refine x_c rfl ?_
    refine x_al rfl rfl ?_
    refine x_getC rfl hn (by with_reducible exact sp_0) (by exact rfl) ?_
    refine x_getC rfl hn (by with_reducible exact sp_1396) (by exact rfl) ?_
    rw [show udA F 19 (upd (F 19) 3 (nI (nh + 1))) 1396 0 = p from hp]
    refine x_call4 (c_putHit (c := 6) e3 (by omega) (Nat.lt_succ_self _) (by decide) hn) rfl (Nat.le_of_ble_eq_true rfl) (Or.inl (by first | exact hn | assumption)) (rcv_at (cw_fs (by with_reducible exact tb_0 (by first | assumption | exact tbS | exact tbH)) hn) (by decide) (by decide)) (Nat.le_of_ble_eq_true rfl) (Nat.le_of_ble_eq_true rfl) (fun E w9 hq => hq.elim) ?_
    rintro v9 w9 ⟨rfl, rfl⟩
    refine x_retv rfl (Nat.le_of_ble_eq_true rfl) (Nat.le_of_ble_eq_true rfl) rfl ?_
    refine ⟨rfl, ?_⟩
    simp only [udA_t, udA_udA]
    rfl
theorem hitR_tab {h : Nat} {k x v : Nat} {q p : Int32} (hT : RsTab F A 19 7 11425 f h) (hh : f 11424 = nI h) : RsTab (udA F 19 (upd (F 19) 3 (nI (h + 1)))) (udA A 20 (hitR A h (nI k) (nI (x / 10)) (nI (x % 10)) q p (f 0))) 19 7 11425 (hitW f h k x q p) (h + 1) := by
  refine ⟨rfl, fun r hr c hc => ?_⟩
  show hitR A h (nI k) (nI (x / 10)) (nI (x % 10)) q p (f 0) (r * 7 + c) = _
  unfold hitR hitW
  by_cases e : r = h
  · subst e
    obtain rfl | rfl | rfl | rfl | rfl | rfl | rfl : c = 0 ∨ c = 1 ∨ c = 2 ∨ c = 3 ∨ c = 4 ∨ c = 5 ∨ c = 6 := by omega
    · rw [upd_ne (by omega), upd_ne (by omega), upd_ne (by omega), upd_ne (by omega), upd_ne (by omega), upd_ne (by omega), upd_at, upd_ne (by omega), upd_ne (by omega), upd_ne (by omega), upd_ne (by omega), upd_ne (by omega), upd_ne (by omega), upd_ne (by omega), Nat.add_zero, upd_at]
    · rw [upd_ne (by omega), upd_ne (by omega), upd_ne (by omega), upd_ne (by omega), upd_ne (by omega), upd_at, upd_ne (by omega), upd_ne (by omega), upd_ne (by omega), upd_ne (by omega), upd_ne (by omega), upd_ne (by omega), upd_at]
    · rw [upd_ne (by omega), upd_ne (by omega), upd_ne (by omega), upd_ne (by omega), upd_at, upd_ne (by omega), upd_ne (by omega), upd_ne (by omega), upd_ne (by omega), upd_ne (by omega), upd_at]
    · rw [upd_ne (by omega), upd_ne (by omega), upd_ne (by omega), upd_at, upd_ne (by omega), upd_ne (by omega), upd_ne (by omega), upd_ne (by omega), upd_at]
    · rw [upd_ne (by omega), upd_ne (by omega), upd_at, upd_ne (by omega), upd_ne (by omega), upd_ne (by omega), upd_at]
    · rw [upd_ne (by omega), upd_at, upd_ne (by omega), upd_ne (by omega), upd_at]
    · rw [upd_at, upd_ne (by omega), upd_at]
  · have h1 := hT.2 r (by omega) c hc
    rw [upd_ne (by omega), upd_ne (by omega), upd_ne (by omega), upd_ne (by omega), upd_ne (by omega), upd_ne (by omega), upd_ne (by omega), upd_ne (by omega), upd_ne (by omega), upd_ne (by omega), upd_ne (by omega), upd_ne (by omega), upd_ne (by omega), upd_ne (by omega), upd_ne (by omega)]
    exact h1
end CALLS
