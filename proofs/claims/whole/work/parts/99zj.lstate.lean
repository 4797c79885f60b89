/-! print and rules as the law calls them; class and reference agree; cw_ -/
/-- how the law's print ends -/
def LpQ (w : aW) (F A : Nat → Nat → Int32) (m f : Nat → Int32) (RA : Nat → Nat → Int32) (RB : Nat → Nat → Int64) (np nm nc nt ns nh v : Nat) (P : Bool × Nat × (Nat → Int32)) : Option Value → aW → Prop := fun r W' => ∃ F' A' L' o', W' = lW w o' F' A' L' m f RA RB ∧ F' 1 1 = 0 ∧ frR F A F' A' ∧ ((P.1 = true ∧ ¬ np = 60 ∧ r = some (.int 0) ∧ o' 0 = (nI np).toInt64 ∧ F' 1 2 = -1 ∧ RS F' A' (prF f np P.2.2) 6 (np + 1) nm nc nt ns nh ∧ IV (prF f np P.2.2) (np + 1) nm nc nt ns nh ∧ KI F' A' (prF f np P.2.2) (np + 1) nm v) ∨ (RS F' A' f 6 np nm nc nt ns nh ∧ KI F' A' f np nm v ∧ ((P.1 = false ∧ r = some (.int 1) ∧ F' 1 2 = nI P.2.1) ∨ (P.1 = true ∧ np = 60 ∧ r = some (.int 2) ∧ F' 1 2 = -1))))
/-- how the law's rules ends -/
def LuQ (w : aW) (F A : Nat → Nat → Int32) (m f : Nat → Int32) (RA : Nat → Nat → Int32) (RB : Nat → Nat → Int64) (np nm nc nt ns nh v : Nat) (R : TR) (day : Int32) : Option Value → aW → Prop := fun r W' => ∃ F' A' L' o', W' = lW w o' F' A' L' m f RA RB ∧ F' 1 1 = 0 ∧ frY F A F' A' ∧ (((f 0 ≤ day ∧ day ≤ 2000) ∧ R.1 = true ∧ ¬ nt = 10 ∧ r = some (.int 0) ∧ o' 0 = (nI R.2.2.1.length).toInt64 ∧ F' 1 2 = -1 ∧ ∀ fx : Nat → Int32, (∀ i, i < 21328 → fx i = f i) → rowsAt fx R.2.2.1 → (∀ i, 21376 ≤ i → fx i = wrL f 0 R.2.2.2 i) → RS F' A' (putT fx nt day (nI R.2.2.1.length)) 6 np nm nc (nt + 1) ns nh ∧ IV (putT fx nt day (nI R.2.2.1.length)) np nm nc (nt + 1) ns nh ∧ KI F' A' (putT fx nt day (nI R.2.2.1.length)) np nm v) ∨ (RS F' A' f 6 np nm nc nt ns nh ∧ KI F' A' f np nm v ∧ ((¬ (f 0 ≤ day ∧ day ≤ 2000) ∧ r = some (.int 1) ∧ F' 1 2 = F 1 2) ∨ ((f 0 ≤ day ∧ day ≤ 2000) ∧ R.1 = false ∧ r = some (.int 1) ∧ F' 1 2 = nI R.2.1) ∨ ((f 0 ≤ day ∧ day ≤ 2000) ∧ R.1 = true ∧ nt = 10 ∧ r = some (.int 2) ∧ F' 1 2 = -1))))
section CALLS
variable {g : aG} {d : Nat} {w : aW} {F A : Nat → Nat → Int32} {L : Nat → Int64} {f : Nat → Int32} {np nm nc nt ns nh v : Nat}
theorem l_print {t : Nat → Int32} {b : Nat → Nat} {en : Nat} {dr : Nat → Int32} {o : Nat → Int64} {m : Nat → Int32} {RA : Nat → Nat → Int32} {RB : Nat → Nat → Int64} (hg : HRi g) (hD : D9 F) (hB : TpR t (A 2) en b) (h1 : F 1 1 = nI en) (hen : en ≤ 400) (hK : KI F A f np nm v) (hR : RS F A f 6 np nm nc nt ns nh) (hI : IV f np nm nc nt ns nh) (hn : w.1 = N0) : Ev g (d + 7) 298 [.ref 0, .ref 1438] (lW w o F A L m f RA RB) (LpQ w F A m f RA RB np nm nc nt ns nh v (pF t en 64 0 dr)) noX := by
  refine ev_L_print ?_ (Nat.le_of_ble_eq_true rfl)
  refine x_lo (lo' := [some (.ref 0), some (.ref 1438), none]) rfl ?_
  refine x_al rfl rfl ?_
  refine x_c rfl ?_
  refine x_al rfl rfl ?_
  refine x_invH (as := [.ref 0]) rfl rfl rfl (Nat.le_of_ble_eq_true rfl) (Or.inl hn) (rcv_at (cw_fs (w := rW (aUp w 1438 (oE o)) m f RA RB) sp_0 hn) (by decide) (by decide)) (Nat.le_of_ble_eq_true rfl) (Nat.le_of_ble_eq_true rfl) (c_print (w := rW (aUp w 1438 (oE o)) m f RA RB) (dr := dr) hg hD hB h1 hen hK hR hI hn) (fun v9 w9 hq => ?_) (fun E w9 hx => ?_)
  · obtain ⟨a1, a2, rfl, F', A', L', rfl, ⟨a3, a4⟩, a5, a6, a7, a8⟩ := hq
    refine x_i2l rfl ?_
    refine x_lasN (j := 0) rfl (lW_at (w := w) (o := o) (F := F') (A := A') (L := L') (m := m) (f := f) (RA := RA) (RB := RB) hn) (by omega) ?_
    rw [show aUp (cW (rW (aUp w 1438 (oE o)) m f RA RB) F' A' L') 1438 (.inl (1, 1, .inr (.inl (vp_updL o 0 _)))) = lW w (vp_updL o 0 _) F' A' L' m f RA RB from lW_o]
    refine x_go rfl ?_
    refine x_c rfl ?_
    refine x_reti rfl (Nat.le_of_ble_eq_true rfl) (Nat.le_of_ble_eq_true rfl) rfl ?_
    exact ⟨F', A', L', _, rfl, a3, a8, Or.inl ⟨a1, a2, rfl, pk_uLs, a4, a5, a6, a7⟩⟩
  · obtain ⟨F', A', L', rfl, a3, a5, a7, a8, ⟨b1, rfl, b3⟩ | ⟨b1, b2, rfl, b3⟩⟩ := hx
    · refine ⟨7, _, _, _, by decide +kernel, rfl, (Nat.le_of_ble_eq_true rfl), ?_⟩
      refine x_c rfl ?_
      refine x_reti rfl (Nat.le_of_ble_eq_true rfl) (Nat.le_of_ble_eq_true rfl) rfl ?_
      exact ⟨F', A', L', o, rfl, a3, a8, Or.inr ⟨a5, a7, Or.inl ⟨b1, rfl, b3⟩⟩⟩
    · refine ⟨10, _, _, _, by decide +kernel, rfl, (Nat.le_of_ble_eq_true rfl), ?_⟩
      refine x_c rfl ?_
      refine x_reti rfl (Nat.le_of_ble_eq_true rfl) (Nat.le_of_ble_eq_true rfl) rfl ?_
      exact ⟨F', A', L', o, rfl, a3, a8, Or.inr ⟨a5, a7, Or.inr ⟨b1, b2, rfl, b3⟩⟩⟩
theorem l_rules {t : Nat → Int32} {b : Nat → Nat} {en : Nat} {day : Int32} {o : Nat → Int64} {m : Nat → Int32} {RA : Nat → Nat → Int32} {RB : Nat → Nat → Int64} (hT : HTx g) (hB : TpR t (A 2) en b) (h1 : F 1 1 = nI en) (hen : en ≤ 400) (hK : KI F A f np nm v) (hR : RS F A f 6 np nm nc nt ns nh) (hI : IV f np nm nc nt ns nh) (hn : w.1 = N0) : Ev g (d + 41) 316 [.ref 0, .int day, .ref 1438] (lW w o F A L m f RA RB) (LuQ w F A m f RA RB np nm nc nt ns nh v (pText t en 0) day) noX := by
  refine ev_L_rules ?_ (Nat.le_of_ble_eq_true rfl)
  refine x_lo (lo' := [some (.ref 0), some (.int day), some (.ref 1438), none]) rfl ?_
  refine x_al rfl rfl ?_
  refine x_c rfl ?_
  refine x_al rfl rfl ?_
  refine x_il rfl rfl ?_
  refine x_invH (as := [.ref 0, .int day]) rfl rfl rfl (Nat.le_of_ble_eq_true rfl) (Or.inl hn) (rcv_at (cw_fs (w := rW (aUp w 1438 (oE o)) m f RA RB) sp_0 hn) (by decide) (by decide)) (Nat.le_of_ble_eq_true rfl) (Nat.le_of_ble_eq_true rfl) (c_rules (w := rW (aUp w 1438 (oE o)) m f RA RB) hT hB h1 hen hK hR hI hn) (fun v9 w9 hq => ?_) (fun E w9 hx => ?_)
  · obtain ⟨a0, a1, a2, rfl, F', A', L', rfl, ⟨a3, a4⟩, a5, a6⟩ := hq
    refine x_i2l rfl ?_
    refine x_lasN (j := 0) rfl (lW_at (w := w) (o := o) (F := F') (A := A') (L := L') (m := m) (f := f) (RA := RA) (RB := RB) hn) (by omega) ?_
    rw [show aUp (cW (rW (aUp w 1438 (oE o)) m f RA RB) F' A' L') 1438 (.inl (1, 1, .inr (.inl (vp_updL o 0 _)))) = lW w (vp_updL o 0 _) F' A' L' m f RA RB from lW_o]
    refine x_go rfl ?_
    refine x_c rfl ?_
    refine x_reti rfl (Nat.le_of_ble_eq_true rfl) (Nat.le_of_ble_eq_true rfl) rfl ?_
    exact ⟨F', A', L', _, rfl, a3, a5, Or.inl ⟨a0, a1, a2, rfl, pk_uLs, a4, a6⟩⟩
  · obtain ⟨F', A', L', rfl, a3, a5, a7, a8, ⟨b1, rfl, b3⟩ | ⟨b0, b1, rfl, b3⟩ | ⟨b0, b1, b2, rfl, b3⟩⟩ := hx
    · refine ⟨8, _, _, _, by decide +kernel, rfl, (Nat.le_of_ble_eq_true rfl), ?_⟩
      refine x_c rfl ?_
      refine x_reti rfl (Nat.le_of_ble_eq_true rfl) (Nat.le_of_ble_eq_true rfl) rfl ?_
      exact ⟨F', A', L', o, rfl, a3, a5, Or.inr ⟨a7, a8, Or.inl ⟨b1, rfl, b3⟩⟩⟩
    · refine ⟨8, _, _, _, by decide +kernel, rfl, (Nat.le_of_ble_eq_true rfl), ?_⟩
      refine x_c rfl ?_
      refine x_reti rfl (Nat.le_of_ble_eq_true rfl) (Nat.le_of_ble_eq_true rfl) rfl ?_
      exact ⟨F', A', L', o, rfl, a3, a5, Or.inr ⟨a7, a8, Or.inr (Or.inl ⟨b0, b1, rfl, b3⟩)⟩⟩
    · refine ⟨11, _, _, _, by decide +kernel, rfl, (Nat.le_of_ble_eq_true rfl), ?_⟩
      refine x_c rfl ?_
      refine x_reti rfl (Nat.le_of_ble_eq_true rfl) (Nat.le_of_ble_eq_true rfl) rfl ?_
      exact ⟨F', A', L', o, rfl, a3, a5, Or.inr ⟨a7, a8, Or.inr (Or.inr ⟨b0, b1, b2, rfl, b3⟩)⟩⟩
end CALLS
theorem r_thrown {g : aG} {d : Nat} {w : aW} {m f : Nat → Int32} {A : Nat → Nat → Int32} {B : Nat → Nat → Int64} (hn : w.1 = N0) : Ev g (d + 1) 177 [.ref 1424] (rW w m f A B) (RetQ (m 0) (rW w m f A B)) noX := by
  refine ev_X11_thrown ?_ (Nat.le_of_ble_eq_true rfl)
  refine x_lo (lo' := [some (.ref 1424)]) rfl ?_
  refine x_al rfl rfl ?_
  refine x_get rfl (rw_md hn) (by exact rfl) ?_
  refine x_reti rfl (Nat.le_of_ble_eq_true rfl) (Nat.le_of_ble_eq_true rfl) rfl ?_
  exact ⟨rfl, rfl⟩
/-- the image of both -/
def Img (F A : Nat → Nat → Int32) (m3 : Int32) (fi : Nat → Int32) : Prop := F 706 1 = 0 ∧ ((F 0 3 = 0 ∧ m3 = 0) ∨ (F 0 3 = 1 ∧ m3 = 1 ∧ ∃ np nm nc nt ns nh, RS F A fi 701 np nm nc nt ns nh ∧ IV fi np nm nc nt ns nh))
/-- tape, fault, image and the draft's sheet -/
def GsB (F A : Nat → Nat → Int32) (m : Nat → Int32) (RA : Nat → Nat → Int32) (en : Nat) (b : Nat → Nat) : Prop := (F 1 1 = nI en ∧ m 5 = nI en ∧ en ≤ 400 ∧ TpR (RA 1427) (A 2) en b) ∧ F 1 2 = m 10 ∧ Img F A (m 3) (RA 1426) ∧ D9 F
/-- after c calls class and reference agree -/
def Gs (w : aW) (c : Nat) (W : aW) : Prop := ∃ o F A L m f RA RB np nm nc nt ns nh v en b, W = lW w o F A L m f RA RB ∧ KI F A f np nm v ∧ v ≤ c + 1 ∧ RS F A f 6 np nm nc nt ns nh ∧ IV f np nm nc nt ns nh ∧ GsB F A m RA en b
section GS
variable {F A F' A' : Nat → Nat → Int32} {m m' f f' : Nat → Int32} {RA RA' : Nat → Nat → Int32} {np nm nc nt ns nh v v' en c : Nat} {b : Nat → Nat}
theorem RS.keepB {B : Nat} (h : RS F A f B np nm nc nt ns nh) (hI : IV f np nm nc nt ns nh) (hk : ∀ q, B ≤ q → q < B + 695 → F' q = F q ∧ A' q = A q) : RS F' A' f B np nm nc nt ns nh := by
  have h60 := hI.p60; have h20 := hI.m20; have h16 := hI.c16; have h10 := hI.t10
  obtain ⟨h0, hp, hm, hc, ht, hno, hs, hh⟩ := h
  refine ⟨by rw [(hk B (by omega) (by omega)).1]; exact h0, fun p hp1 => (hp p hp1).keep fun r a b => hk r (by omega) (by omega), fun k hk1 => (hm k hk1).keep fun r a b => hk r (by omega) (by omega), fun c hc1 => (hc c hc1).keep fun r a b => hk r (by omega) (by omega), fun t ht1 => ?_, by rw [(hk (B + 5) (by omega) (by omega)).1]; exact hno, hs.keep (hk _ (by omega) (by omega)).1 (hk _ (by omega) (by omega)).2, hh.keep (hk _ (by omega) (by omega)).1 (hk _ (by omega) (by omega)).2⟩
  obtain ⟨r, hr⟩ := ht t ht1
  exact ⟨r, hr.keep fun r a b => hk r (by omega) (by omega)⟩
theorem Img.keep {x : Int32} {fi : Nat → Int32} (h : Img F A x fi) (h0 : F' 0 3 = F 0 3) (hk : ∀ q, 701 ≤ q → q < 1396 → F' q = F q ∧ A' q = A q) : Img F' A' x fi := by
  refine ⟨by rw [(hk 706 (by omega) (by omega)).1]; exact h.1, ?_⟩
  rw [h0]
  rcases h.2 with h1 | ⟨h1, h2, a, b, c, d, e, i, hR, hI⟩
  · exact Or.inl h1
  · exact Or.inr ⟨h1, h2, a, b, c, d, e, i, hR.keepB hI fun q x y => hk q (by omega) (by omega), hI⟩
theorem D9.keep (h : D9 F) (hk : F' 1409 = F 1409) : D9 F' := by
  unfold D9 at h ⊢
  rw [hk]
  exact h
theorem GsB.keep (h : GsB F A m RA en b) (hF : ∀ q, (q < 6 ∨ (701 ≤ q ∧ q < 1396) ∨ q = 1409) → F' q = F q ∧ A' q = A q) (h3 : m' 3 = m 3) (h5 : m' 5 = m 5) (h10 : m' 10 = m 10) (hA : ∀ q, q < 1430 → RA' q = RA q) : GsB F' A' m' RA' en b := by
  obtain ⟨⟨a1, a2, a3, a4⟩, b1, c1, d1⟩ := h
  refine ⟨⟨by rw [(hF 1 (by omega)).1]; exact a1, by rw [h5]; exact a2, a3, by rw [hA 1427 (by omega), (hF 2 (by omega)).2]; exact a4⟩, by rw [(hF 1 (by omega)).1, h10]; exact b1, ?_, d1.keep (hF 1409 (by omega)).1⟩
  rw [h3, hA 1426 (by omega)]
  exact c1.keep (by rw [(hF 0 (by omega)).1]) fun q x y => hF q (by omega)
/-- a call that asks or writes nothing but the world keeps all -/
theorem gs_ca {w : aW} {o : Nat → Int64} {L : Nat → Int64} {RB : Nat → Nat → Int64} {np' nm' nc' nt' ns' nh' : Nat} {thr : Int32} (hB : GsB F A m RA en b) (hv : v ≤ c + 1) (hv' : v' ≤ v + 1) (hS : stI F A F' A' f' np' nm' nc' nt' ns' nh' v') (hk : keepS (upd m 0 thr) m') (hA : ∀ q, q < 1430 → RA' q = RA q) : Gs w (c + 1) (lW w o F' A' L m' f' RA' RB) := by
  obtain ⟨hR, hI, hK, hF⟩ := hS
  have hm : ∀ k, k = 3 ∨ k = 5 ∨ k = 10 → m' k = m k := fun k h => by rw [hk k (by omega) (by omega), upd_ne (by omega)]
  exact ⟨o, F', A', L, m', f', RA', RB, np', nm', nc', nt', ns', nh', v', en, b, rfl, hK, by omega, hR, hI, hB.keep hF (hm 3 (by omega)) (hm 5 (by omega)) (hm 10 (by omega)) hA⟩
theorem KI.next {np' nm' : Nat} (h : KI F A f np nm v) (hv : v + 1 < 2 ^ 30) (h1 : F' 1396 11 = nI (v + 1)) (h2 : A' 1404 = A 1404) : KI F' A' f' np' nm' (v + 1) := by
  refine ⟨h1, hv, fun k hk => ?_⟩
  rw [h2]
  obtain ⟨e, e1, e2, e3⟩ := h.2.2 k hk
  exact ⟨e, by omega, e2, fun h => by omega⟩
/-- the tape read to its end -/
theorem GsB.read (h : GsB F A m RA en b) (h1 : F' 1 1 = 0) (h2 : F' 1 2 = m' 10) (h3 : m' 3 = m 3) (h5 : m' 5 = 0) (h0 : F' 0 = F 0) (hk : ∀ q, ((701 ≤ q ∧ q < 1396) ∨ q = 1409) → F' q = F q ∧ A' q = A q) (hA : RA' 1426 = RA 1426) : GsB F' A' m' RA' 0 b := by
  obtain ⟨_, _, c1, d1⟩ := h
  refine ⟨⟨h1, h5, Nat.zero_le _, fun i hi => absurd hi (Nat.not_lt_zero _)⟩, h2, ?_, d1.keep (hk 1409 (by omega)).1⟩
  rw [h3, hA]
  exact c1.keep (by rw [h0]) fun q x y => hk q (by omega)
/-- twenty bytes more -/
theorem GsB.fed {x1 x2 x3 x4 x5 : Int32} (h : GsB F A m RA en b) (he : en + 20 ≤ 400) : ∃ b', GsB (udA F 1 (upd (F 1) 1 (nI (en + 20)))) (udA A 2 (fedC (A 2) en x1 x2 x3 x4 x5)) (upd (upd m 0 0) 5 (nI (en + 20))) (udA (udA RA 1428 (fv5 (RA 1428) x1 x2 x3 x4 x5)) 1427 (fedF (RA 1427) en (fv5 (RA 1428) x1 x2 x3 x4 x5) 20)) (en + 20) b' := by
  obtain ⟨⟨_, _, a3, a4⟩, b1, c1, d1⟩ := h
  obtain ⟨b', hb⟩ := a4.feed (o := RA 1428) (v1 := x1) (v2 := x2) (v3 := x3) (v4 := x4) (v5 := x5)
  have e3 : upd (upd m 0 0) 5 (nI (en + 20)) 3 = m 3 := (upd_ne (by decide)).trans (upd_ne (by decide))
  have e10 : upd (upd m 0 0) 5 (nI (en + 20)) 10 = m 10 := (upd_ne (by decide)).trans (upd_ne (by decide))
  have eF : udA F 1 (upd (F 1) 1 (nI (en + 20))) 1 = upd (F 1) 1 (nI (en + 20)) := udA_t
  have e26 : udA (udA RA 1428 (fv5 (RA 1428) x1 x2 x3 x4 x5)) 1427 (fedF (RA 1427) en (fv5 (RA 1428) x1 x2 x3 x4 x5) 20) 1426 = RA 1426 := (udA_ne (by decide)).trans (udA_ne (by decide))
  have e27 : udA (udA RA 1428 (fv5 (RA 1428) x1 x2 x3 x4 x5)) 1427 (fedF (RA 1427) en (fv5 (RA 1428) x1 x2 x3 x4 x5) 20) 1427 = fedF (RA 1427) en (fv5 (RA 1428) x1 x2 x3 x4 x5) 20 := udA_t
  have e2 : udA A 2 (fedC (A 2) en x1 x2 x3 x4 x5) 2 = fedC (A 2) en x1 x2 x3 x4 x5 := udA_t
  refine ⟨b', ⟨by rw [eF]; exact upd_at, upd_at, he, by rw [e27, e2]; exact hb⟩, ?_, ?_, d1.keep (udA_ne (by decide))⟩
  · rw [eF, e10, upd_ne (by decide)]
    exact b1
  · rw [e3, e26]
    exact c1.keep (by rw [udA_ne (by decide)]) fun q x y => ⟨udA_ne (by omega), udA_ne (by omega)⟩
/-- the tape cut -/
theorem GsB.cut {x : Int32} (h : GsB F A m RA en b) : ∃ en', GsB (if 0 ≤ x ∧ x ≤ m 5 then udA F 1 (upd (F 1) 1 x) else F) A (if 0 ≤ x ∧ x ≤ m 5 then upd (upd m 0 0) 5 x else upd m 0 0) RA en' b := by
  by_cases hx : 0 ≤ x ∧ x ≤ m 5
  · rw [if_pos hx, if_pos hx]
    obtain ⟨⟨_, a2, a3, a4⟩, b1, c1, d1⟩ := h
    obtain ⟨j, hj, rfl⟩ := nI_of (Int32.not_lt.mpr hx.1)
    have hle : j ≤ en := by
      have h2 := hx.2
      rw [a2] at h2
      exact (nI_leI hj (by omega)).mp h2
    have eF : udA F 1 (upd (F 1) 1 (nI j)) 1 = upd (F 1) 1 (nI j) := udA_t
    have e3 : upd (upd m 0 0) 5 (nI j) 3 = m 3 := (upd_ne (by decide)).trans (upd_ne (by decide))
    have e10 : upd (upd m 0 0) 5 (nI j) 10 = m 10 := (upd_ne (by decide)).trans (upd_ne (by decide))
    refine ⟨j, ⟨by rw [eF]; exact upd_at, upd_at, by omega, a4.end hle⟩, ?_, ?_, d1.keep (udA_ne (by decide))⟩
    · rw [eF, e10, upd_ne (by decide)]
      exact b1
    · rw [e3]
      exact c1.keep (by rw [udA_ne (by decide)]) fun q x y => ⟨udA_ne (by omega), rfl⟩
  · rw [if_neg hx, if_neg hx]
    exact ⟨en, h.keep (fun _ _ => ⟨rfl, rfl⟩) (upd_ne (by decide)) (upd_ne (by decide)) (upd_ne (by decide)) fun _ _ => rfl⟩
/-- only the reference's thrown changes -/
theorem gs_same {w : aW} {o : Nat → Int64} {L : Nat → Int64} {RB : Nat → Nat → Int64} (hB : GsB F A m RA en b) (hv : v ≤ c + 1) (hK : KI F A f np nm v) (hR : RS F A f 6 np nm nc nt ns nh) (hI : IV f np nm nc nt ns nh) : Gs w (c + 1) (lW w o F A L (upd m 0 0) f RA RB) := ⟨o, F, A, L, _, f, RA, RB, np, nm, nc, nt, ns, nh, v, en, b, rfl, hK, by omega, hR, hI, hB.keep (fun _ _ => ⟨rfl, rfl⟩) (upd_ne (by decide)) (upd_ne (by decide)) (upd_ne (by decide)) fun _ _ => rfl⟩
theorem TpR.nil {t c : Nat → Int32} {b : Nat → Nat} : TpR t c 0 b := fun i hi => absurd hi (Nat.not_lt_zero _)
end GS
