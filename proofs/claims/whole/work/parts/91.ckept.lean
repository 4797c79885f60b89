/-! lays kept, the deciding rule; cw_ -/
/-- the lay that a key names -/
def lyK (f : Nat → Int32) (k : Nat) : bS := if k / 60 < 20 then layMk f (k / 60) (k % 60) else layPq f (k / 60 - 20) (k % 60)
/-- a key of marks and prints that there are -/
def keyOk (k np nm : Nat) : Prop := k % 60 < np ∧ (k / 60 < nm ∨ (20 ≤ k / 60 ∧ k / 60 - 20 < np))
/-- what is kept of lays is right, if it has the newest number -/
def KI (F A : Nat → Nat → Int32) (f : Nat → Int32) (np nm v : Nat) : Prop := F 1396 11 = nI v ∧ v < 2 ^ 30 ∧ ∀ k, k < 4800 → ∃ e, e ≤ v ∧ A 1404 (k * 6) = nI e ∧ (e = v → keyOk k np nm ∧ kpB (A 1404) (k * 6) = lyK f k)
theorem kpW_o {h : Nat → Int32} {b j : Nat} {v : Int32} {x : bS} (hj : j < b ∨ b + 6 ≤ j) : kpW h b v x j = h j := by
  unfold kpW
  rw [upd_ne (by omega), upd_ne (by omega), upd_ne (by omega), upd_ne (by omega), upd_ne (by omega), upd_ne (by omega)]
theorem kpW_0 {h : Nat → Int32} {b : Nat} {v : Int32} {x : bS} : kpW h b v x b = v := by
  unfold kpW
  rw [upd_ne (by omega), upd_ne (by omega), upd_ne (by omega), upd_ne (by omega), upd_ne (by omega), upd_at]
theorem kpW_B {h : Nat → Int32} {b : Nat} {v : Int32} {x : bS} : kpB (kpW h b v x) b = x := by
  unfold kpB kpW
  rw [upd_ne (by omega), upd_ne (by omega), upd_ne (by omega), upd_ne (by omega), upd_at, upd_ne (by omega), upd_ne (by omega), upd_ne (by omega), upd_at, upd_ne (by omega), upd_ne (by omega), upd_at, upd_ne (by omega), upd_at, upd_at]
theorem KI.step {F A F' A' : Nat → Nat → Int32} {f : Nat → Int32} {np nm v key : Nat} (h : KI F A f np nm v) (hF : F' 1396 11 = F 1396 11) (hA : A' 1404 = A 1404 ∨ A' 1404 = kpW (A 1404) (key * 6) (F 1396 11) (lyK f key)) (hk : keyOk key np nm) : KI F' A' f np nm v := by
  obtain ⟨h1, h2, h3⟩ := h
  refine ⟨by rw [hF]; exact h1, h2, fun k hk4 => ?_⟩
  rcases hA with hA | hA
  · rw [hA]; exact h3 k hk4
  · rw [hA]
    by_cases e : k = key
    · subst e
      exact ⟨v, Nat.le_refl _, by rw [kpW_0, h1], fun _ => ⟨hk, kpW_B⟩⟩
    · obtain ⟨e1, e2, e3, e4⟩ := h3 k hk4
      refine ⟨e1, e2, by rw [kpW_o (by omega)]; exact e3, fun hv => ⟨(e4 hv).1, ?_⟩⟩
      rw [← (e4 hv).2]
      unfold kpB
      rw [kpW_o (by omega), kpW_o (by omega), kpW_o (by omega), kpW_o (by omega), kpW_o (by omega)]
/-- an answer, the class's scratch changed, what is kept of lays still right -/
def SxQ (w : aW) (F A : Nat → Nat → Int32) (f : Nat → Int32) (np nm v : Nat) (P : Option Value → (Nat → Nat → Int32) → (Nat → Nat → Int32) → (Nat → Int64) → Prop) : Option Value → aW → Prop := fun r w' => ∃ F' A' L', w' = cW w F' A' L' ∧ (∀ q, (q < 1396 ∨ q = 1409 ∨ q = 1423) → F' q = F q ∧ A' q = A q) ∧ KI F' A' f np nm v ∧ P r F' A' L'
theorem ev_m {g : aG} {d mid : Nat} {av : List Value} {w : aW} {Qr Qr' : Option Value → aW → Prop} {Qx Qx' : String → aW → Prop} (h : Ev g d mid av w Qr Qx) (hr : ∀ v w, Qr v w → Qr' v w) (hx : ∀ E w, Qx E w → Qx' E w) : Ev g d mid av w Qr' Qx' := Ev_mono g d mid av w Qr Qr' Qx Qx' hr hx h
section CALLS
variable {g : aG} {d : Nat} {w : aW} {F A : Nat → Nat → Int32} {L : Nat → Int64} {f : Nat → Int32} {np nm nc nt ns nh v : Nat}
/-- what a search leaves -/
def fkQ (w : aW) (F A : Nat → Nat → Int32) (L : Nat → Int64) (f : Nat → Int32) (np nm v : Nat) (R : bS) : Option Value → aW → Prop := fun r w' => r = none ∧ ∃ F' A', w' = cW w F' A' L ∧ (∀ q, (q < 1396 ∨ 1405 ≤ q) → F' q = F q ∧ A' q = A q) ∧ KI F' A' f np nm v ∧ BL (F' 1396) R
theorem c_findK {u l a b ours th key : Nat} {x0 y0 x1 y1 : Int32} (hK : KI F A f np nm v) (hkk : keyOk key np nm) (hlk : lyK f key = layF f a b ours th x0 y0 x1 y1) (hu : ShAt u) (hl : ShAt l) (hd : l + 4 < 1396) (hdu : u + 4 < 1396) (hU : LoD F A f u a ours) (hru : F u 5 = x0 ∧ F u 6 = y0 ∧ F u 7 = x1 ∧ F u 8 = y1) (hL : LoD F A f l b th) (hrc : F l 5 = 0 ∧ F l 6 = 0 ∧ F l 7 = 63 ∧ F l 8 = 63) (ho8 : ours ≤ 8) (hm8 : th ≤ 8) (hkey : key < 4800) (hn : w.1 = N0) : Ev g (d + 12) 18 [.ref 1396, .int (nI key), .ref u, .ref l, .int (f 1)] (cW w F A L) (fkQ w F A L f np nm v (lyK f key)) noX := by
  rw [hlk]
  refine ev_m (c_find hu hl hd hdu hU hru hL hrc ho8 hm8 hkey (fun e => ?_) hn) (fun r w' h => ?_) (fun _ _ h => h)
  · obtain ⟨h1, h2, h3⟩ := hK
    obtain ⟨e1, e2, e3, e4⟩ := h3 key hkey
    rw [e3, h1] at e
    rw [← hlk]
    exact (e4 ((nI_eq (by omega) (by omega)).mp e)).2
  · obtain ⟨hr, F', A', hw, hb, hv, hF, hA, hk⟩ := h
    refine ⟨hr, F', A', hw, fun q hq => ⟨?_, ?_⟩, hK.step hv (by rw [hlk]; exact hk) hkk, hb⟩
    · exact hF q (by omega) (by omega)
    · exact hA q (by omega)
theorem wp_p {p : Nat} (h : WP f) (hp : p < 60) : cN (f (5 + 97 * p + 64)) ≤ 8 := (h.1 p hp).2
theorem wp_m {k : Nat} (h : WP f) (hk : k < 20) : cN (f (5826 + 39 * k + 6)) ≤ 8 := (h.2 k hk).2
theorem c_findM {k p : Nat} (hK : KI F A f np nm v) (hR : RS F A f 6 np nm nc nt ns nh) (hI : IV f np nm nc nt ns nh) (hk : k < nm) (hp : p < np) (hn : w.1 = N0) : Ev g (d + 12) 18 [.ref 1396, .int (nI (k * 60 + p)), .ref (441 + 6 * k + 1), .ref (21 + 7 * p + 2), .int (f 1)] (cW w F A L) (fkQ w F A L f np nm v (layMk f k p)) noX := by
  have h60 := hI.p60
  have h20 := hI.m20
  have e1 : (k * 60 + p) / 60 = k := by omega
  have e2 : (k * 60 + p) % 60 = p := by omega
  have el : lyK f (k * 60 + p) = layMk f k p := by
    unfold lyK
    rw [e1, e2, if_pos (by omega)]
  rw [← el]
  have hM := hR.ma hk
  have hP := hR.pr hp
  exact c_findK hK ⟨by rw [e2]; exact hp, Or.inl (by rw [e1]; exact hk)⟩ (by rw [el]; rfl) (ma_sh (maA (by omega))) (pr_sh (prA (by omega))) (by omega) (by omega) hM.1 hM.2.1 hP.2.2.1 hP.2.2.2 (wp_m hI.wp (by omega)) (wp_p hI.wp (by omega)) (by omega) hn
theorem c_findP {p q : Nat} (hK : KI F A f np nm v) (hR : RS F A f 6 np nm nc nt ns nh) (hI : IV f np nm nc nt ns nh) (hp : p < np) (hq : q < np) (hn : w.1 = N0) : Ev g (d + 12) 18 [.ref 1396, .int (nI ((20 + p) * 60 + q)), .ref (21 + 7 * p + 2), .ref (21 + 7 * q + 2), .int (f 1)] (cW w F A L) (fkQ w F A L f np nm v (layPq f p q)) noX := by
  have h60 := hI.p60
  have h20 := hI.m20
  have e1 : ((20 + p) * 60 + q) / 60 = 20 + p := by omega
  have e2 : ((20 + p) * 60 + q) % 60 = q := by omega
  have el : lyK f ((20 + p) * 60 + q) = layPq f p q := by
    unfold lyK
    rw [e1, e2, if_neg (by omega), show 20 + p - 20 = p by omega]
  rw [← el]
  have hM := hR.pr hp
  have hP := hR.pr hq
  exact c_findK hK ⟨by rw [e2]; exact hq, Or.inr ⟨by omega, by omega⟩⟩ (by rw [el]; rfl) (pr_sh (prA (by omega))) (pr_sh (prA (by omega))) (by omega) (by omega) hM.2.2.1 hM.2.2.2 hP.2.2.1 hP.2.2.2 (wp_p hI.wp (by omega)) (wp_p hI.wp (by omega)) (by omega) hn
theorem bestT_neg {day : Int32} {n : Nat} (hd : day < 0) (h : ∀ t, t < n → ∃ v, v ≤ 2000 ∧ f (12826 + 850 * t) = nI v) : bestT f day n = none := by
  induction n with
  | zero => rfl
  | succ n ih =>
    have e : bestT f day (n + 1) = if f (12826 + 850 * n) ≤ day ∧ (∀ c, bestT f day n = some c → f (12826 + 850 * c) ≤ f (12826 + 850 * n)) then some n else bestT f day n := rfl
    rw [e, if_neg, ih (fun t ht => h t (by omega))]
    rintro ⟨h1, _⟩
    obtain ⟨v, hv, ev⟩ := h n (by omega)
    rw [ev] at h1
    have : (0 : Int32) ≤ nI v := (nI_leI (a := 0) (by omega) (by omega)).mpr (Nat.zero_le _)
    exact absurd (Int32.lt_of_le_of_lt (Int32.le_trans this h1) hd) (Int32.lt_irrefl)
/-- a day is an int from 0 on, or no text is in force -/
theorem IV.day (hI : IV f np nm nc nt ns nh) (day : Int32) : bestT f day nt = none ∨ ∃ v, v < 2 ^ 31 ∧ day = nI v := by
  by_cases h : day < 0
  · exact Or.inl (bestT_neg h (fun t ht => hI.tx ht))
  · refine Or.inr ⟨cN day, Int32.toNatClampNeg_lt _, ?_⟩
    have h0 := Int32.not_lt.mp h
    apply Int32.toInt_inj.mp
    have h1 : 0 ≤ day.toInt := Int32.le_iff_toInt_le.mp h0
    have e := Int32.toInt_ofNat_of_lt (Int32.toNatClampNeg_lt day)
    show day.toInt = (Int32.ofNat day.toNatClampNeg).toInt
    rw [e]
    show day.toInt = (day.toInt.toNat : Int)
    omega
theorem tag_g {x : Int32} {b : Bool} : ∀ k, k < 4 → bt (setTg 0 0 b) k = tgG b k := by
  intro k hk
  rw [bt_setTg (by decide) (by omega), bt_0]
  unfold tgG
  by_cases e : k = 0
  · subst e
    simp
  · rw [if_neg e]
    simp [e]
theorem ofL_at {L : Nat → Int64} {a b c e : Int32} : ofL L a b c e 0 = a.toInt64 ∧ ofL L a b c e 1 = b.toInt64 ∧ ofL L a b c e 2 = c.toInt64 ∧ ofL L a b c e 3 = e.toInt64 ∧ ofL L a b c e 4 = 0 := ⟨rfl, rfl, rfl, rfl, rfl⟩
def setTg2 (F : Nat → Nat → Int32) (b : Bool) : Nat → Int32 := upd (F 1405) 1 (setTg 0 0 b)
theorem c_decidingRule {k p : Nat} {day : Int32} (hK : KI F A f np nm v) (hR : RS F A f 6 np nm nc nt ns nh) (hI : IV f np nm nc nt ns nh) (hk : k < nm) (hp : p < np) (hn : w.1 = N0) : Ev g (d + 13) 135 [.ref 0, .int (nI k), .int (nI p), .int day] (cW w F A L) (SxQ w F A f np nm v (fun r F' A' L' => r = some (.int (whyV f (bestT f day nt) (tgM f k) (fcM f k p day))) ∧ BL (F' 1396) (layMk f k p))) noX := by
  have h60 := hI.p60
  have h20 := hI.m20
  have h10 := hI.t10
  refine ev_X10_decidingRule ?_ (Nat.le_of_ble_eq_true rfl)
  refine x_lo (lo' := [some (.ref 0), some (.int (nI k)), some (.int (nI p)), some (.int day), none, none]) rfl ?_
  refine x_al rfl rfl ?_
  refine x_getC rfl hn (by with_reducible exact sp_0) (by exact rfl) ?_
  refine x_il rfl rfl ?_
  refine x_call2 (c_isMark hR.1.2.2.2.2.2.1 (by omega) hn) rfl (Nat.le_of_ble_eq_true rfl) (Or.inl (by first | exact hn | assumption)) (rcv_at (cw_fs (by with_reducible exact (by first | exact sp_6 | exact st_0 (by assumption))) hn) (by decide) (by decide)) (Nat.le_of_ble_eq_true rfl) (Nat.le_of_ble_eq_true rfl) (fun E w9 hq => hq.elim) ?_
  rintro v9 w9 ⟨rfl, rfl⟩
  rw [okN_n hk (by omega)]
  refine x_ifeq rfl (fun e9 => absurd e9 (show ¬ (1 : Int32) = 0 by decide)) (fun e9 => ?_)
  refine x_al rfl rfl ?_
  refine x_getC rfl hn (by with_reducible exact sp_0) (by exact rfl) ?_
  refine x_il rfl rfl ?_
  refine x_call2 (c_isPrint hR.1.2.2.2.2.1 (by omega) hn) rfl (Nat.le_of_ble_eq_true rfl) (Or.inl (by first | exact hn | assumption)) (rcv_at (cw_fs (by with_reducible exact (by first | exact sp_6 | exact st_0 (by assumption))) hn) (by decide) (by decide)) (Nat.le_of_ble_eq_true rfl) (Nat.le_of_ble_eq_true rfl) (fun E w9 hq => hq.elim) ?_
  rintro v9 w9 ⟨rfl, rfl⟩
  rw [okN_n hp (by omega)]
  refine x_ifne rfl (fun e9 => ?_) (fun e9 => absurd (show (1 : Int32) = 0 from e9) (by decide))
  refine x_al rfl rfl ?_
  refine x_getC rfl hn (by with_reducible exact sp_0) (by exact rfl) ?_
  refine x_getC rfl hn (by with_reducible exact (by first | exact sp_6 | exact st_0 (by assumption))) (by exact rfl) ?_
  refine x_il rfl rfl ?_
  refine x_aaC rfl hn (by with_reducible exact sp_8) (by decide) (by omega) ?_
  refine x_as (lo' := [_, _, _, _, _, _]) rfl (Nat.le_of_ble_eq_true rfl) rfl ?_
  refine x_al rfl rfl ?_
  refine x_getC rfl hn (by with_reducible exact sp_0) (by exact rfl) ?_
  refine x_getC rfl hn (by with_reducible exact (by first | exact sp_6 | exact st_0 (by assumption))) (by exact rfl) ?_
  refine x_il rfl rfl ?_
  refine x_aaC rfl hn (by with_reducible exact sp_7) (by decide) (by omega) ?_
  refine x_as (lo' := [_, _, _, _, _, _]) rfl (Nat.le_of_ble_eq_true rfl) rfl ?_
  refine x_al rfl rfl ?_
  refine x_getC rfl hn (by with_reducible exact sp_0) (by exact rfl) ?_
  refine x_al rfl rfl ?_
  refine x_getC rfl hn (by with_reducible exact sp_0) (by exact rfl) ?_
  refine x_il rfl rfl ?_
  refine x_il rfl rfl ?_
  refine x_call3 (c_keyM hn) rfl (Nat.le_of_ble_eq_true rfl) (Or.inl (by first | exact hn | assumption)) (rcv_at (cw_fs (by with_reducible exact sp_1396) hn) (by decide) (by decide)) (Nat.le_of_ble_eq_true rfl) (Nat.le_of_ble_eq_true rfl) (fun E w9 hq => hq.elim) ?_
  rintro v9 w9 ⟨rfl, rfl⟩
  refine x_al rfl rfl ?_
  refine x_getC rfl hn (by with_reducible exact ma_0 (by first | assumption | exact maA (by omega) | exact maB (by assumption) (by omega))) (by exact rfl) ?_
  refine x_al rfl rfl ?_
  refine x_getC rfl hn (by with_reducible exact pr_0 (by first | assumption | exact prA (by omega) | exact prD | exact prB (by assumption) (by omega))) (by exact rfl) ?_
  refine x_al rfl rfl ?_
  refine x_getC rfl hn (by with_reducible exact sp_0) (by exact rfl) ?_
  refine x_getC rfl hn (by with_reducible exact (by first | exact sp_6 | exact st_0 (by assumption))) (by exact rfl) ?_
  rw [show F 6 1 = f 1 from hR.1.2.1]
  refine x_call5 (c_findM hK hR hI hk hp hn) rfl (Nat.le_of_ble_eq_true rfl) (Or.inl (by first | exact hn | assumption)) (rcv_at (cw_fs (by with_reducible exact sp_1396) hn) (by decide) (by decide)) (Nat.le_of_ble_eq_true rfl) (Nat.le_of_ble_eq_true rfl) (fun E w9 hq => hq.elim) ?_
  rintro v9 w9 ⟨rfl, F1, A1, rfl, hs1, hK1, hb1⟩
  refine x_al rfl rfl ?_
  refine x_getC rfl hn (by with_reducible exact sp_0) (by exact rfl) ?_
  refine x_al rfl rfl ?_
  refine x_getC rfl hn (by with_reducible exact sp_0) (by exact rfl) ?_
  refine x_al rfl rfl ?_
  refine x_getC rfl hn (by with_reducible exact ma_0 (by first | assumption | exact maA (by omega) | exact maB (by assumption) (by omega))) (by exact rfl) ?_
  refine x_getC rfl hn (by with_reducible exact sh_0 (by first | assumption | exact sh_turned | exact pr_sh (by first | assumption | exact prA (by omega) | exact prD | exact prB (by assumption) (by omega)) | exact ma_sh (by first | assumption | exact maA (by omega) | exact maB (by assumption) (by omega)))) (by exact rfl) ?_
  refine x_al rfl rfl ?_
  refine x_getC rfl hn (by with_reducible exact pr_0 (by first | assumption | exact prA (by omega) | exact prD | exact prB (by assumption) (by omega))) (by exact rfl) ?_
  have hs0 : ∀ q, (q < 1396 ∨ q = 1409 ∨ q = 1423) → F1 q = F q ∧ A1 q = A q := fun q hq => hs1 q (by omega)
  have hR1 := hR.keep hI (fun q h1 h2 => hs0 q (by omega))
  have hM := hR1.ma hk
  have hP := hR1.pr hp
  obtain ⟨⟨vc, hvc, evc⟩, bg, ebg⟩ := hI.ma hk
  rw [show F1 (441 + 6 * k + 1) 4 = f (5826 + 39 * k + 6) from hM.1.1.trans (hI.wp.2 k (by omega)).1.symm, show F1 (21 + 7 * p) 4 = clsF f p from hP.2.1.2.2]
  refine x_call4 (c_ofLay hn) rfl (Nat.le_of_ble_eq_true rfl) (Or.inl (by first | exact hn | assumption)) (rcv_at (cw_fs (by with_reducible exact sp_1405) hn) (by decide) (by decide)) (Nat.le_of_ble_eq_true rfl) (Nat.le_of_ble_eq_true rfl) (fun E w9 hq => hq.elim) ?_
  rintro v9 w9 ⟨rfl, rfl⟩
  refine x_al rfl rfl ?_
  refine x_getC rfl hn (by with_reducible exact sp_0) (by exact rfl) ?_
  refine x_il rfl rfl ?_
  refine x_i2l rfl ?_
  refine x_al rfl rfl ?_
  refine x_getC rfl hn (by with_reducible exact ma_0 (by first | assumption | exact maA (by omega) | exact maB (by assumption) (by omega))) (by exact rfl) ?_
  refine x_i2l rfl ?_
  refine x_lsub rfl ?_
  rw [udA_ne (show 441 + 6 * k ≠ 1405 by omega), show F1 (441 + 6 * k) 2 = nI vc from hM.2.2.2.trans evc]
  refine x_call2 (c_setAge hn) rfl (Nat.le_of_ble_eq_true rfl) (Or.inl (by first | exact hn | assumption)) (rcv_at (cw_fs (by with_reducible exact sp_1405) hn) (by decide) (by decide)) (Nat.le_of_ble_eq_true rfl) (Nat.le_of_ble_eq_true rfl) (fun E w9 hq => hq.elim) ?_
  rintro v9 w9 ⟨rfl, rfl⟩
  refine x_al rfl rfl ?_
  refine x_getC rfl hn (by with_reducible exact sp_0) (by exact rfl) ?_
  refine x_c rfl ?_
  refine x_al rfl rfl ?_
  refine x_getC rfl hn (by with_reducible exact ma_0 (by first | assumption | exact maA (by omega) | exact maB (by assumption) (by omega))) (by exact rfl) ?_
  rw [udA_ne (show 441 + 6 * k ≠ 1405 by omega), show F1 (441 + 6 * k) 1 = bI bg from hM.2.2.1.trans ebg]
  refine x_call3 (c_setTag (k := 0) hn) rfl (Nat.le_of_ble_eq_true rfl) (Or.inl (by first | exact hn | assumption)) (rcv_at (cw_fs (by with_reducible exact sp_1405) hn) (by decide) (by decide)) (Nat.le_of_ble_eq_true rfl) (Nat.le_of_ble_eq_true rfl) (fun E w9 hq => hq.elim) ?_
  rintro v9 w9 ⟨rfl, rfl⟩
  refine x_al rfl rfl ?_
  refine x_getC rfl hn (by with_reducible exact sp_0) (by exact rfl) ?_
  refine x_il rfl rfl ?_
  have hR2 : RS (udA F1 1405 (setTg2 F1 bg)) A1 f 6 np nm nc nt ns nh := hR1.keep hI (fun q h1 h2 => ⟨udA_ne (by omega), rfl⟩)
  simp only [udA_t, udA_udA, upd_at, upd_upd]
  rw [show udA F1 1405 (upd (F1 1405) 1 (setTg 0 0 bg)) = udA F1 1405 (setTg2 F1 bg) from rfl]
  refine x_call2 (c_textOn (day := day) hR2 h10 hn) rfl (Nat.le_of_ble_eq_true rfl) (Or.inl (by first | exact hn | assumption)) (rcv_at (cw_fs (by with_reducible exact (by first | exact sp_6 | exact st_0 (by assumption))) hn) (by decide) (by decide)) (Nat.le_of_ble_eq_true rfl) (Nat.le_of_ble_eq_true rfl) (fun E w9 hq => hq.elim) ?_
  rintro v9 w9 ⟨rfl, rfl⟩
  refine x_al rfl rfl ?_
  refine x_getC rfl hn (by with_reducible exact sp_0) (by exact rfl) ?_
  have hTO := hR2.txo day
  have hF : bestT f day nt = none ∨ FcC (udA F1 1405 (setTg2 F1 bg)) (vp_updL (ofL L (F1 1396 0) (F1 1396 1) (f (5826 + 39 * k + 6)) (clsF f p)) 4 (day.toInt64 - (nI vc).toInt64)) (tgM f k) (fcM f k p day) := by
    rcases hI.day day with h | ⟨dv, hdv, ed⟩
    · exact Or.inl h
    · refine Or.inr ⟨?_, ?_⟩
      · intro j hj
        rw [udA_t, show setTg2 F1 bg 1 = setTg 0 0 bg from upd_at, tag_g (x := 0) j hj]
        unfold tgM
        rw [ebg]
        cases bg <;> rfl
      · intro j hj
        unfold fcM fc5
        obtain rfl | rfl | rfl | rfl | rfl : j = 0 ∨ j = 1 ∨ j = 2 ∨ j = 3 ∨ j = 4 := by omega
        · exact congrArg Int32.toInt64 hb1.1
        · exact congrArg Int32.toInt64 hb1.2.1
        · rfl
        · rfl
        · rw [ed, evc]
          exact (L_sub hdv (by omega)).symm
  refine x_call2 (c_decidingRuleT (te_b h10) hTO hF hn) rfl (Nat.le_of_ble_eq_true rfl) (Or.inl (by first | exact hn | assumption)) (rcv_at (cw_fs (by with_reducible exact te_0 (by first | assumption | exact teA (by omega) | exact teN | exact teD | exact te_b (by assumption) | exact teB (by assumption) (by omega))) hn) (by decide) (by decide)) (Nat.le_of_ble_eq_true rfl) (Nat.le_of_ble_eq_true rfl) (fun E w9 hq => hq.elim) ?_
  rintro v9 w9 ⟨rfl, rfl⟩
  refine x_reti rfl (Nat.le_of_ble_eq_true rfl) (Nat.le_of_ble_eq_true rfl) rfl ?_
  exact ⟨_, _, _, rfl, fun q hq => ⟨by rw [udA_ne (by omega)]; exact (hs0 q hq).1, (hs0 q hq).2⟩, ⟨by rw [udA_ne (by decide)]; exact hK1.1, hK1.2.1, hK1.2.2⟩, rfl, by rw [udA_ne (by decide)]; exact hb1⟩
end CALLS
