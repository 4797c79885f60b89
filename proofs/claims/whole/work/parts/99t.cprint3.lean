/-! print of the class; cw_ -/
theorem cpP_at {p : Nat} {dr f : Nat → Int32} : ∀ k i, cpP p dr f k i = if 5 + 97 * p ≤ i ∧ i < 5 + 97 * p + k then dr (i - (5 + 97 * p)) else f i := by
  intro k
  induction k with
  | zero => intro i; rw [if_neg (by omega)]; rfl
  | succ k ih =>
    intro i
    show upd (cpP p dr f k) (5 + 97 * p + k) (dr k) i = _
    by_cases h : i = 5 + 97 * p + k
    · subst h
      rw [upd_at, if_pos (by omega), show 5 + 97 * p + k - (5 + 97 * p) = k by omega]
    · rw [upd_ne h, ih]
      by_cases h2 : 5 + 97 * p ≤ i ∧ i < 5 + 97 * p + k
      · rw [if_pos h2, if_pos (by omega)]
      · rw [if_neg h2, if_neg (by omega)]
/-- the draft's sheet is an empty one -/
def D9 (F : Nat → Nat → Int32) : Prop := F 1409 4 = 0 ∧ F 1409 5 = 0 ∧ F 1409 6 = 0 ∧ F 1409 7 = 63 ∧ F 1409 8 = 63
/-- the world with one print more -/
def prF (f : Nat → Int32) (np : Nat) (dr : Nat → Int32) : Nat → Int32 := cpP np dr (upd f 4 (nI (np + 1))) 64
/-- what stays where a text was read -/
def frR (F A F' A' : Nat → Nat → Int32) : Prop := ∀ q, (q = 0 ∨ (2 ≤ q ∧ q < 6) ∨ (701 ≤ q ∧ q < 1396) ∨ q = 1409) → F' q = F q ∧ A' q = A q
def PrC (w : aW) (F A : Nat → Nat → Int32) (f : Nat → Int32) (np nm nc nt ns nh v : Nat) (P : Bool × Nat × (Nat → Int32)) : Option Value → aW → Prop := fun v1 w' => P.1 = true ∧ ¬ np = 60 ∧ v1 = some (.int (nI np)) ∧ ∃ F' A' L', w' = cW w F' A' L' ∧ (F' 1 1 = 0 ∧ F' 1 2 = -1) ∧ RS F' A' (prF f np P.2.2) 6 (np + 1) nm nc nt ns nh ∧ IV (prF f np P.2.2) (np + 1) nm nc nt ns nh ∧ KI F' A' (prF f np P.2.2) (np + 1) nm v ∧ frR F A F' A'
def PrX (w : aW) (F A : Nat → Nat → Int32) (f : Nat → Int32) (np nm nc nt ns nh v : Nat) (P : Bool × Nat × (Nat → Int32)) : String → aW → Prop := fun E w' => ∃ F' A' L', w' = cW w F' A' L' ∧ F' 1 1 = 0 ∧ RS F' A' f 6 np nm nc nt ns nh ∧ KI F' A' f np nm v ∧ frR F A F' A' ∧ ((P.1 = false ∧ E = exN 0 ∧ F' 1 2 = nI P.2.1) ∨ (P.1 = true ∧ np = 60 ∧ E = exN 1 ∧ F' 1 2 = -1))
section CALLS
variable {g : aG} {d : Nat} {w : aW} {F A : Nat → Nat → Int32} {L : Nat → Int64} {f : Nat → Int32} {np nm nc nt ns nh v : Nat}
theorem c_print {t : Nat → Int32} {b : Nat → Nat} {en : Nat} {dr : Nat → Int32} (hg : HRi g) (hD : D9 F) (hB : TpR t (A 2) en b) (h1 : F 1 1 = nI en) (hen : en ≤ 400) (hK : KI F A f np nm v) (hR : RS F A f 6 np nm nc nt ns nh) (hI : IV f np nm nc nt ns nh) (hn : w.1 = N0) : Ev g (d + 6) 112 [.ref 0] (cW w F A L) (PrC w F A f np nm nc nt ns nh v (pF t en 64 0 dr)) (PrX w F A f np nm nc nt ns nh v (pF t en 64 0 dr)) := by
  have h60 := hI.p60
  have h20 := hI.m20
  have hrf := c_readField (g := g) (d := d + 3) (w := w) (L := L) (dr := dr) hB h1 hen hn
  generalize pF t en 64 0 dr = P at *
  obtain ⟨r, e9, dr9⟩ := P
  dsimp only at hrf
  refine ev_X10_print ?_ (Nat.le_of_ble_eq_true rfl)
  refine x_lo (lo' := [some (.ref 0), none]) rfl ?_
  refine x_al rfl rfl ?_
  refine x_getC rfl hn (by with_reducible exact sp_0) (by exact rfl) ?_
  refine x_al rfl rfl ?_
  refine x_getC rfl hn (by with_reducible exact sp_0) (by exact rfl) ?_
  refine x_call2 (hrf) rfl (Nat.le_of_ble_eq_true rfl) (Or.inl (by first | exact hn | assumption)) (rcv_at (cw_fs (by with_reducible exact pr_0 (by first | assumption | exact prA (by omega) | exact prD | exact prB (by assumption) (by omega))) hn) (by decide) (by decide)) (Nat.le_of_ble_eq_true rfl) (Nat.le_of_ble_eq_true rfl) (fun E w9 hq => hq.elim) ?_
  rintro v9 w9 ⟨rfl, cs, rfl, hcs⟩
  refine x_is (lo' := [_, _]) rfl (Nat.le_of_ble_eq_true rfl) rfl ?_
  refine x_al rfl rfl ?_
  refine x_getC rfl hn (by with_reducible exact sp_0) (by exact rfl) ?_
  refine x_c rfl ?_
  refine x_putC rfl hn (by with_reducible exact sp_1) (by exact rfl) (by first | rfl | exact nr_z (by assumption)) (by first | rfl | exact fi_z _) ?_
  refine x_il rfl rfl ?_
  generalize hF3 : udA (udA F 1 (upd (F 1) 2 (if r = true then -1 else nI e9))) 1 (upd (udA F 1 (upd (F 1) 2 (if r = true then -1 else nI e9)) 1) 1 0) = F3
  generalize hA3 : udA A 1408 cs = A3
  have g1 : F3 1 1 = 0 := by rw [← hF3, udA_t, upd_at]
  have g2 : F3 1 2 = if r = true then -1 else nI e9 := by rw [← hF3, udA_t, udA_t, upd_ne (by decide), upd_at]
  have go : ∀ q, q ≠ 1 → F3 q = F q := fun q h => by rw [← hF3, udA_ne h, udA_ne h]
  have ga : A3 1408 = cs := by rw [← hA3, udA_t]
  have goA : ∀ q, q ≠ 1408 → A3 q = A q := fun q h => by rw [← hA3, udA_ne h]
  have hR3 : RS F3 A3 f 6 np nm nc nt ns nh := hR.keep hI (fun q h1 h2 => ⟨go q (by omega), goA q (by omega)⟩)
  have hK3 : KI F3 A3 f np nm v := hK.keepC (by rw [go 1396 (by decide)]) (goA 1404 (by decide))
  have hfr : frR F A F3 A3 := fun q hq => ⟨go q (by omega), goA q (by omega)⟩
  have e4 : F3 6 4 = nI np := hR3.1.2.2.2.2.1
  cases r with
  | false =>
    refine x_ifne rfl (fun c => absurd rfl c) (fun c => ?_)
    refine x_thr rfl hn rfl (Nat.le_of_ble_eq_true rfl) (Nat.le_of_ble_eq_true rfl) (Nat.le_of_ble_eq_true rfl) ?_
    exact ⟨F3, A3, L, rfl, g1, hR3, hK3, hfr, Or.inl ⟨rfl, rfl, g2⟩⟩
  | true =>
    refine x_ifne rfl (fun c => ?_) (fun c => absurd c (show ¬ (1 : Int32) = 0 by decide))
    refine x_al rfl rfl ?_
    refine x_getC rfl hn (by with_reducible exact sp_0) (by exact rfl) ?_
    refine x_getC rfl hn (by with_reducible exact (by first | exact sp_6 | exact st_0 (by assumption))) (by exact rfl) ?_
    rw [e4]
    refine x_c rfl ?_
    refine x_icltN (y := 60) rfl (by omega) (fun c1 => ?_) (fun c1 => ?_)
    rotate_left
    · skip
      have e60 : np = 60 := by omega
      refine x_thr rfl hn rfl (Nat.le_of_ble_eq_true rfl) (Nat.le_of_ble_eq_true rfl) (Nat.le_of_ble_eq_true rfl) ?_
      exact ⟨F3, A3, L, rfl, g1, hR3, hK3, hfr, Or.inr ⟨rfl, e60, rfl, g2⟩⟩
    refine x_al rfl rfl ?_
    refine x_getC rfl hn (by with_reducible exact sp_0) (by exact rfl) ?_
    have hcs := hcs rfl
    have fo : ∀ i, i ≠ 4 → (i < 5 + 97 * np ∨ 5 + 97 * np + 64 ≤ i) → prF f np dr9 i = f i := fun i h1 h2 => by
      unfold prF
      rw [cpP_at, if_neg (by omega), upd_ne h1]
    have fi : ∀ k, k < 64 → prF f np dr9 (5 + 97 * np + k) = dr9 k := fun k hk => by
      unfold prF
      rw [cpP_at, if_pos (by omega), show 5 + 97 * np + k - (5 + 97 * np) = k by omega]
    have f4 : prF f np dr9 4 = nI (np + 1) := by
      unfold prF
      rw [cpP_at, if_neg (by omega), upd_at]
    generalize hf1 : prF f np dr9 = f1 at fo fi f4
    have hC : CeA A3 1407 f1 np := fun k hk => by
      show A3 1408 k = f1 (5 + 97 * np + k)
      rw [ga, (hcs k hk).1, fi k hk]
    have hCR : CeR f1 np := fun x y hx hy => by
      rw [show 5 + 97 * np + 8 * y + x = 5 + 97 * np + (8 * y + x) by omega, fi (8 * y + x) (by omega), ← (hcs (8 * y + x) (by omega)).1]
      exact (hcs (8 * y + x) (by omega)).2
    refine x_call1 (c_settle (f := f1) (p := np) hg prD hC hCR hn) rfl (Nat.le_of_ble_eq_true rfl) (Or.inl (by first | exact hn | assumption)) (rcv_at (cw_fs (by with_reducible exact pr_0 (by first | assumption | exact prA (by omega) | exact prD | exact prB (by assumption) (by omega))) hn) (by decide) (by decide)) (Nat.le_of_ble_eq_true rfl) (Nat.le_of_ble_eq_true rfl) (fun E w9 hq => hq.elim) ?_
    rintro v9 w9 ⟨rfl, rfl⟩
    refine x_al rfl rfl ?_
    refine x_getC rfl hn (by with_reducible exact sp_0) (by exact rfl) ?_
    refine x_getC rfl hn (by with_reducible exact (by first | exact sp_6 | exact st_0 (by assumption))) (by exact rfl) ?_
    refine x_al rfl rfl ?_
    refine x_getC rfl hn (by with_reducible exact sp_0) (by exact rfl) ?_
    refine x_getC rfl hn (by with_reducible exact (by first | exact sp_6 | exact st_0 (by assumption))) (by exact rfl) ?_
    generalize hF4 : udA F3 1407 (upd (upd (upd (F3 1407) 2 (patF (turnF f1 np))) 3 (ridF f1 np)) 4 (clsF f1 np)) = F4
    have q2 : F4 1407 2 = patF (turnF f1 np) := by rw [← hF4, udA_t, upd_ne (by decide), upd_ne (by decide), upd_at]
    have q3 : F4 1407 3 = ridF f1 np := by rw [← hF4, udA_t, upd_ne (by decide), upd_at]
    have q4 : F4 1407 4 = clsF f1 np := by rw [← hF4, udA_t, upd_at]
    have go4 : ∀ q, q ≠ 1407 → F4 q = F3 q := fun q h => by rw [← hF4, udA_ne h]
    rw [go4 6 (by decide), e4]
    refine x_aaC rfl hn (by with_reducible exact sp_7) (by decide) (by omega) ?_
    refine x_al rfl rfl ?_
    refine x_getC rfl hn (by with_reducible exact sp_0) (by exact rfl) ?_
    refine x_call2 (c_copyPrint (q := 21 + 7 * np) (p := 1407) (prA c1) prD (by omega) hn) rfl (Nat.le_of_ble_eq_true rfl) (Or.inl (by first | exact hn | assumption)) (rcv_at (cw_fs (by with_reducible exact pr_0 (by first | assumption | exact prA (by omega) | exact prD | exact prB (by assumption) (by omega))) hn) (by decide) (by decide)) (Nat.le_of_ble_eq_true rfl) (Nat.le_of_ble_eq_true rfl) (fun E w9 hq => hq.elim) ?_
    rintro v9 w9 ⟨rfl, F5, A5, rfl, k1, k2, k3, k4, k5, k6, k7⟩
    refine x_al rfl rfl ?_
    refine x_getC rfl hn (by with_reducible exact sp_0) (by exact rfl) ?_
    refine x_dup rfl rfl ?_
    refine x_getC rfl hn (by with_reducible exact (by first | exact sp_6 | exact st_0 (by assumption))) (by exact rfl) ?_
    have k5 : ∀ k, 4 ≤ k → k < 9 → F5 (21 + 7 * np + 2) k = F4 1409 k := k5
    have e6 : F5 6 4 = nI np := by rw [(k7 6 (by omega)).1, go4 6 (by decide)]; exact e4
    rw [e6]
    refine x_c rfl ?_
    refine x_addN (y := 1) rfl ?_
    refine x_putC rfl hn (by with_reducible exact (by first | exact sp_6 | exact st_0 (by assumption))) (by exact rfl) (by first | rfl | exact nr_z (by assumption)) (by first | rfl | exact fi_z _) ?_
    refine x_al rfl rfl ?_
    refine x_getC rfl hn (by with_reducible exact sp_0) (by exact rfl) ?_
    refine x_getC rfl hn (by with_reducible exact (by first | exact sp_6 | exact st_0 (by assumption))) (by exact rfl) ?_
    rw [udA_t, upd_at]
    refine x_c rfl ?_
    first | refine x_subN (y := 1) rfl (by omega) ?_ | refine x_sub rfl ?_
    refine x_reti rfl (Nat.le_of_ble_eq_true rfl) (Nat.le_of_ble_eq_true rfl) rfl ?_
    have gF : ∀ q, q ≠ 6 → (q < 21 + 7 * np ∨ 21 + 7 * np + 7 ≤ q) → q ≠ 1407 → q ≠ 1 → udA F5 6 (upd (F5 6) 4 (nI (np + 1))) q = F q := fun q a b c e => by rw [udA_ne a, (k7 q b).1, go4 q c, go q e]
    have gA : ∀ q, (q < 21 + 7 * np ∨ 21 + 7 * np + 7 ≤ q) → q ≠ 1408 → A5 q = A q := fun q a b => by rw [(k7 q a).2, goA q b]
    have fz : f1 (5 + 97 * np + 64) = 0 := by rw [fo _ (by omega) (by omega)]; exact hI.2.2.2.1.2 np (Nat.le_refl _) c1
    obtain ⟨⟨i1, i2, _⟩, _, hW, ⟨hp1, hp2⟩, ⟨hm1, hm2⟩, _⟩ := id hI
    subst hf1
    refine ⟨rfl, by omega, rfl, _, A5, L, rfl, ⟨?_, ?_⟩, hR.pm hI (fun i hi => fo i (by omega) (by omega)) ?_ ?_ (fun k h4 h5 => ?_) (fun q h1 h2 h3 => gF q (by omega) (by omega) (by omega) (by omega)) (fun q h1 h2 h3 => gA q (by omega) (by omega)) (fun p hp => ?_) (fun k hk => ?_), hI.pm (fun i hi => fo i (by omega) (by omega)) ⟨f4, by omega⟩ (by rw [fo 5825 (by omega) (by omega)]; exact i2) (Nat.le_succ _) (Nat.le_refl _) ⟨fun p hp => by rw [fo (5 + 97 * p + 64) (by omega) (by omega)]; exact hW.1 p hp, fun k hk => by rw [fo (5826 + 39 * k + 6) (by omega) (by omega)]; exact hW.2 k hk⟩ ⟨fun p hp => ?_, fun p h1 h2 => by rw [fo (5 + 97 * p + 64) (by omega) (by omega)]; exact hp2 p (by omega) h2⟩ ⟨fun k hk => by rw [fo (5826 + 39 * k) (by omega) (by omega), fo (5826 + 39 * k + 5) (by omega) (by omega)]; exact hm1 k hk, fun k h1 h2 => by rw [fo (5826 + 39 * k + 6) (by omega) (by omega)]; exact hm2 k h1 h2⟩, (hK.cong (f' := prF f np dr9) (np' := np + 1) (nm' := nm) ⟨fo 1 (by omega) (by omega), fun p hp i h1 h2 => fo i (by omega) (by omega), fun k hk i h1 h2 => fo i (by omega) (by omega)⟩ hW h60 h20 (Nat.le_succ _) (Nat.le_refl _)).keepC (by rw [gF 1396 (by omega) (by omega) (by omega) (by omega)]) (gA 1404 (by omega) (by omega)), fun q hq => ⟨gF q (by omega) (by omega) (by omega) (by omega), gA q (by omega) (by omega)⟩⟩
    · rw [udA_ne (by decide), (k7 1 (by omega)).1, go4 1 (by decide)]; exact g1
    · rw [udA_ne (by decide), (k7 1 (by omega)).1, go4 1 (by decide)]; exact g2
    · rw [udA_t, upd_at]
    · rw [udA_t, upd_ne (by decide), (k7 6 (by omega)).1, go4 6 (by decide), go 6 (by decide)]; exact hR.1.2.2.2.2.2.1
    · rw [udA_t, upd_ne h4, (k7 6 (by omega)).1, go4 6 (by decide), go 6 (by decide)]
    · by_cases e : p = np
      · subst e
        refine ⟨fun k hk => (k1 k hk).trans (hC k hk), ⟨?_, ?_, ?_⟩, ?_, ⟨?_, ?_, ?_, ?_⟩⟩
        · rw [udA_ne (by omega), k2, q2]
        · rw [udA_ne (by omega), k3, q3]
        · rw [udA_ne (by omega), k4, q4]
        · rw [fz]
          refine ⟨?_, fun j hj => absurd hj (by rw [show cN 0 = 0 from rfl]; omega)⟩
          rw [udA_ne (by omega), k5 4 (by omega) (by omega), go4 1409 (by decide), go 1409 (by decide), hD.1]
          rfl
        · rw [udA_ne (by omega), k5 5 (by omega) (by omega), go4 1409 (by decide), go 1409 (by decide)]; exact hD.2.1
        · rw [udA_ne (by omega), k5 6 (by omega) (by omega), go4 1409 (by decide), go 1409 (by decide)]; exact hD.2.2.1
        · rw [udA_ne (by omega), k5 7 (by omega) (by omega), go4 1409 (by decide), go 1409 (by decide)]; exact hD.2.2.2.1
        · rw [udA_ne (by omega), k5 8 (by omega) (by omega), go4 1409 (by decide), go 1409 (by decide)]; exact hD.2.2.2.2
      · exact ((hR.pr (show p < np by omega)).keep (fun r h1 h2 => ⟨gF r (by omega) (by omega) (by omega) (by omega), gA r (by omega) (by omega)⟩)).cong (wp_p hW (by omega)) (fun i h1 h2 => fo i (by omega) (by omega))
    · exact ((hR.ma hk).keep (fun r h1 h2 => ⟨gF r (by omega) (by omega) (by omega) (by omega), gA r (by omega) (by omega)⟩)).cong (wp_m hW (by omega)) (fun i h1 h2 => fo i (by omega) (by omega))
    · by_cases e : p = np
      · subst e; exact hCR
      · exact CeR_c (fun i h1 h2 => fo i (by omega) (by omega)) (hp1 p (by omega))
end CALLS
