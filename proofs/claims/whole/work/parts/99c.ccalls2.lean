/-! calls that only read, of prints, marks; cw_ -/
section CALLS
variable {g : aG} {d : Nat} {w : aW} {F A : Nat → Nat → Int32} {L : Nat → Int64} {f : Nat → Int32} {np nm nc nt ns nh v : Nat}
theorem c_field {x y : Int32} (hK : KI F A f np nm v) (hR : RS F A f 6 np nm nc nt ns nh) (hI : IV f np nm nc nt ns nh) (hn : w.1 = N0) : Ev g (d + 3) 113 [.ref 0, .int x, .int y] (cW w F A L) (caQ w F A (f) v (if okN x np = true ∧ okN y 64 = true then 0 else 1) (some (.int (if okN x np = true ∧ okN y 64 = true then f (5 + 97 * cN x + cN y) else 0)))) (caX (cW w F A L) (if okN x np = true ∧ okN y 64 = true then 0 else 1) 2 2) := by
  have h60 := hI.p60
  have h20 := hI.m20
  have h16 := hI.c16
  have h10 := hI.t10
  have h200 := hI.s200
  have hh200 := hI.h200
  have no : okN y 64 = false → EX g mbOf (Ev g (d + 2)) (infoOf 113) k_X10_field (caQ w F A (f) v (if okN x np = true ∧ okN y 64 = true then 0 else 1) (some (.int (if okN x np = true ∧ okN y 64 = true then f (5 + 97 * cN x + cN y) else 0)))) (caX (cW w F A L) (if okN x np = true ∧ okN y 64 = true then 0 else 1) 2 2) w.1 (cW w F A L) 1 6 8 [some (.ref 0), some (.int x), some (.int y)] [] := by
    intro h
    refine x_thr rfl hn rfl (Nat.le_of_ble_eq_true rfl) (Nat.le_of_ble_eq_true rfl) (Nat.le_of_ble_eq_true rfl) ?_
    exact ⟨rfl, Or.inl ⟨if_neg (fun h2 => fne h h2.2), rfl⟩⟩
  refine ev_X10_field ?_ (Nat.le_of_ble_eq_true rfl)
  refine x_lo (lo' := [some (.ref 0), some (.int x), some (.int y)]) rfl ?_
  refine x_al rfl rfl ?_
  refine x_il rfl rfl ?_
  refine x_call2 (c_needPrint hR.1.2.2.2.2.1 (by omega) hn) rfl (Nat.le_of_ble_eq_true rfl) (Or.inl (by first | exact hn | assumption)) (rcv_at (cw_fs (by with_reducible exact sp_0) hn) (by decide) (by decide)) (Nat.le_of_ble_eq_true rfl) (Nat.le_of_ble_eq_true rfl) (fun E w9 hq => ⟨rfl, by obtain ⟨h9, rfl, rfl⟩ := hq; exact ⟨rfl, Or.inl ⟨if_neg (fun h8 => fne h9 h8.1), rfl⟩⟩⟩) ?_
  rintro v9 w9 ⟨h1, rfl, rfl⟩
  refine x_il rfl rfl ?_
  obtain ⟨p, hp, rfl, ep⟩ := ok_of h1 (by omega)
  refine x_iflt rfl (fun c1 => ?_) (fun c1 => ?_)
  · skip
    exact no (c_noN1 c1)
  refine x_il rfl rfl ?_
  refine x_c rfl ?_
  refine x_iclt rfl (fun c2 => ?_) (fun c2 => ?_)
  rotate_left
  · skip
    exact no (ge_no (n := 64) (by decide) c2)
  have h2 : okN y 64 = true := c_okN (n := 64) (by decide) c1 (Int32.not_le.mpr c2)
  obtain ⟨k, hk, rfl, ek⟩ := ok_of h2 (by omega)
  refine x_al rfl rfl ?_
  refine x_getC rfl hn (by with_reducible exact sp_0) (by exact rfl) ?_
  refine x_getC rfl hn (by with_reducible exact (by first | exact sp_6 | exact st_0 (by assumption))) (by exact rfl) ?_
  refine x_il rfl rfl ?_
  refine x_aaC rfl hn (by with_reducible exact sp_7) (by decide) (by omega) ?_
  refine x_getC rfl hn (by with_reducible exact pr_0 (by first | assumption | exact prA (by omega) | exact prD | exact prB (by assumption) (by omega))) (by exact rfl) ?_
  refine x_il rfl rfl ?_
  refine x_iaC rfl hn (by with_reducible exact pr_1 (by first | assumption | exact prA (by omega) | exact prD | exact prB (by assumption) (by omega))) (by omega) ?_
  refine x_reti rfl (Nat.le_of_ble_eq_true rfl) (Nat.le_of_ble_eq_true rfl) rfl ?_
  exact ca_ro hK hR hI (by rw [if_pos ⟨h1, h2⟩, ep, ek, (hR.pr hp).1 k hk]) (if_pos ⟨h1, h2⟩)
theorem c_turn {x y : Int32} (hK : KI F A f np nm v) (hR : RS F A f 6 np nm nc nt ns nh) (hI : IV f np nm nc nt ns nh) (hn : w.1 = N0) : Ev g (d + 3) 114 [.ref 0, .int x, .int y] (cW w F A L) (caQ w F A (f) v (if okN x np = true ∧ okN y 49 = true then 0 else 1) (some (.int (if okN x np = true ∧ okN y 49 = true then turnF f (cN x) (cN y) else 0)))) (caX (cW w F A L) (if okN x np = true ∧ okN y 49 = true then 0 else 1) 2 2) := by
  have h60 := hI.p60
  have h20 := hI.m20
  have h16 := hI.c16
  have h10 := hI.t10
  have h200 := hI.s200
  have hh200 := hI.h200
  have no : okN y 49 = false → EX g mbOf (Ev g (d + 2)) (infoOf 114) k_X10_turn (caQ w F A (f) v (if okN x np = true ∧ okN y 49 = true then 0 else 1) (some (.int (if okN x np = true ∧ okN y 49 = true then turnF f (cN x) (cN y) else 0)))) (caX (cW w F A L) (if okN x np = true ∧ okN y 49 = true then 0 else 1) 2 2) w.1 (cW w F A L) 1 6 8 [some (.ref 0), some (.int x), some (.int y)] [] := by
    intro h
    refine x_thr rfl hn rfl (Nat.le_of_ble_eq_true rfl) (Nat.le_of_ble_eq_true rfl) (Nat.le_of_ble_eq_true rfl) ?_
    exact ⟨rfl, Or.inl ⟨if_neg (fun h2 => fne h h2.2), rfl⟩⟩
  refine ev_X10_turn ?_ (Nat.le_of_ble_eq_true rfl)
  refine x_lo (lo' := [some (.ref 0), some (.int x), some (.int y)]) rfl ?_
  refine x_al rfl rfl ?_
  refine x_il rfl rfl ?_
  refine x_call2 (c_needPrint hR.1.2.2.2.2.1 (by omega) hn) rfl (Nat.le_of_ble_eq_true rfl) (Or.inl (by first | exact hn | assumption)) (rcv_at (cw_fs (by with_reducible exact sp_0) hn) (by decide) (by decide)) (Nat.le_of_ble_eq_true rfl) (Nat.le_of_ble_eq_true rfl) (fun E w9 hq => ⟨rfl, by obtain ⟨h9, rfl, rfl⟩ := hq; exact ⟨rfl, Or.inl ⟨if_neg (fun h8 => fne h9 h8.1), rfl⟩⟩⟩) ?_
  rintro v9 w9 ⟨h1, rfl, rfl⟩
  refine x_il rfl rfl ?_
  obtain ⟨p, hp, rfl, ep⟩ := ok_of h1 (by omega)
  refine x_iflt rfl (fun c1 => ?_) (fun c1 => ?_)
  · skip
    exact no (c_noN1 c1)
  refine x_il rfl rfl ?_
  refine x_c rfl ?_
  refine x_iclt rfl (fun c2 => ?_) (fun c2 => ?_)
  rotate_left
  · skip
    exact no (ge_no (n := 49) (by decide) c2)
  have h2 : okN y 49 = true := c_okN (n := 49) (by decide) c1 (Int32.not_le.mpr c2)
  obtain ⟨k, hk, rfl, ek⟩ := ok_of h2 (by omega)
  refine x_al rfl rfl ?_
  refine x_getC rfl hn (by with_reducible exact sp_0) (by exact rfl) ?_
  refine x_getC rfl hn (by with_reducible exact (by first | exact sp_6 | exact st_0 (by assumption))) (by exact rfl) ?_
  refine x_il rfl rfl ?_
  refine x_aaC rfl hn (by with_reducible exact sp_7) (by decide) (by omega) ?_
  refine x_il rfl rfl ?_
  refine x_call2 (c_turnAround (prA (by omega)) (hR.pr hp).1 (hI.ce hp) hk hn) rfl (Nat.le_of_ble_eq_true rfl) (Or.inl (by first | exact hn | assumption)) (rcv_at (cw_fs (by with_reducible exact pr_0 (by first | assumption | exact prA (by omega) | exact prD | exact prB (by assumption) (by omega))) hn) (by decide) (by decide)) (Nat.le_of_ble_eq_true rfl) (Nat.le_of_ble_eq_true rfl) (fun E w9 hq => hq.elim) ?_
  rintro v9 w9 ⟨rfl, rfl⟩
  refine x_reti rfl (Nat.le_of_ble_eq_true rfl) (Nat.le_of_ble_eq_true rfl) rfl ?_
  exact ca_ro hK hR hI (by rw [if_pos ⟨h1, h2⟩, ep, ek]) (if_pos ⟨h1, h2⟩)
theorem c_pattern {x : Int32} (hK : KI F A f np nm v) (hR : RS F A f 6 np nm nc nt ns nh) (hI : IV f np nm nc nt ns nh) (hn : w.1 = N0) : Ev g (d + 3) 115 [.ref 0, .int x] (cW w F A L) (caQ w F A (f) v (if okN x np = true then 0 else 1) (some (.int (if okN x np = true then patF (turnF f (cN x)) else 0)))) (caX (cW w F A L) (if okN x np = true then 0 else 1) 2 2) := by
  have h60 := hI.p60
  have h20 := hI.m20
  have h16 := hI.c16
  have h10 := hI.t10
  have h200 := hI.s200
  have hh200 := hI.h200
  refine ev_X10_pattern ?_ (Nat.le_of_ble_eq_true rfl)
  refine x_lo (lo' := [some (.ref 0), some (.int x)]) rfl ?_
  refine x_al rfl rfl ?_
  refine x_il rfl rfl ?_
  refine x_call2 (c_needPrint hR.1.2.2.2.2.1 (by omega) hn) rfl (Nat.le_of_ble_eq_true rfl) (Or.inl (by first | exact hn | assumption)) (rcv_at (cw_fs (by with_reducible exact sp_0) hn) (by decide) (by decide)) (Nat.le_of_ble_eq_true rfl) (Nat.le_of_ble_eq_true rfl) (fun E w9 hq => ⟨rfl, by obtain ⟨h9, rfl, rfl⟩ := hq; exact ⟨rfl, Or.inl ⟨if_neg (fun h8 => fne h9 h8), rfl⟩⟩⟩) ?_
  rintro v9 w9 ⟨h1, rfl, rfl⟩
  refine x_al rfl rfl ?_
  refine x_getC rfl hn (by with_reducible exact sp_0) (by exact rfl) ?_
  refine x_getC rfl hn (by with_reducible exact (by first | exact sp_6 | exact st_0 (by assumption))) (by exact rfl) ?_
  obtain ⟨p, hp, rfl, ep⟩ := ok_of h1 (by omega)
  refine x_il rfl rfl ?_
  refine x_aaC rfl hn (by with_reducible exact sp_7) (by decide) (by omega) ?_
  refine x_getC rfl hn (by with_reducible exact pr_0 (by first | assumption | exact prA (by omega) | exact prD | exact prB (by assumption) (by omega))) (by exact rfl) ?_
  refine x_reti rfl (Nat.le_of_ble_eq_true rfl) (Nat.le_of_ble_eq_true rfl) rfl ?_
  exact ca_ro hK hR hI (by rw [if_pos h1, ep, (hR.pr hp).2.1.1]) (if_pos h1)
theorem c_ridges {x : Int32} (hK : KI F A f np nm v) (hR : RS F A f 6 np nm nc nt ns nh) (hI : IV f np nm nc nt ns nh) (hn : w.1 = N0) : Ev g (d + 3) 117 [.ref 0, .int x] (cW w F A L) (caQ w F A (f) v (if okN x np = true then 0 else 1) (some (.int (if okN x np = true then ridF f (cN x) else 0)))) (caX (cW w F A L) (if okN x np = true then 0 else 1) 2 2) := by
  have h60 := hI.p60
  have h20 := hI.m20
  have h16 := hI.c16
  have h10 := hI.t10
  have h200 := hI.s200
  have hh200 := hI.h200
  refine ev_X10_ridges ?_ (Nat.le_of_ble_eq_true rfl)
  refine x_lo (lo' := [some (.ref 0), some (.int x)]) rfl ?_
  refine x_al rfl rfl ?_
  refine x_il rfl rfl ?_
  refine x_call2 (c_needPrint hR.1.2.2.2.2.1 (by omega) hn) rfl (Nat.le_of_ble_eq_true rfl) (Or.inl (by first | exact hn | assumption)) (rcv_at (cw_fs (by with_reducible exact sp_0) hn) (by decide) (by decide)) (Nat.le_of_ble_eq_true rfl) (Nat.le_of_ble_eq_true rfl) (fun E w9 hq => ⟨rfl, by obtain ⟨h9, rfl, rfl⟩ := hq; exact ⟨rfl, Or.inl ⟨if_neg (fun h8 => fne h9 h8), rfl⟩⟩⟩) ?_
  rintro v9 w9 ⟨h1, rfl, rfl⟩
  refine x_al rfl rfl ?_
  refine x_getC rfl hn (by with_reducible exact sp_0) (by exact rfl) ?_
  refine x_getC rfl hn (by with_reducible exact (by first | exact sp_6 | exact st_0 (by assumption))) (by exact rfl) ?_
  obtain ⟨p, hp, rfl, ep⟩ := ok_of h1 (by omega)
  refine x_il rfl rfl ?_
  refine x_aaC rfl hn (by with_reducible exact sp_7) (by decide) (by omega) ?_
  refine x_getC rfl hn (by with_reducible exact pr_0 (by first | assumption | exact prA (by omega) | exact prD | exact prB (by assumption) (by omega))) (by exact rfl) ?_
  refine x_reti rfl (Nat.le_of_ble_eq_true rfl) (Nat.le_of_ble_eq_true rfl) rfl ?_
  exact ca_ro hK hR hI (by rw [if_pos h1, ep, (hR.pr hp).2.1.2.1]) (if_pos h1)
theorem sinF_neg {tu : Nat → Int32} {t n : Int32} (h : n < 0) : sinF tu t n = -1 := by
  have key : ∀ k c (many : Nat), many + k < 2 ^ 31 → itF (fun c (many : Nat) => if tu c = t then (if nI many = n then .inr (nI c) else .inl (many + 1)) else .inl many) (fun _ => (-1 : Int32)) k c many = -1 := by
    intro k
    induction k with
    | zero => intro c many _; rfl
    | succ k ih =>
      intro c many hm
      unfold itF
      by_cases e : tu c = t
      · rw [if_pos e, if_neg (fun e2 => nI_pos (show many < 2 ^ 31 by omega) (by rw [e2]; exact h))]
        exact ih _ _ (by omega)
      · rw [if_neg e]
        exact ih _ _ (by omega)
  exact key 49 0 0 (by decide)
theorem c_singular {x n : Int32} {dl : Bool} (hK : KI F A f np nm v) (hR : RS F A f 6 np nm nc nt ns nh) (hI : IV f np nm nc nt ns nh) (hn : w.1 = N0) : Ev g (d + 4) 116 [.ref 0, .int x, .int n, .int (bI dl)] (cW w F A L) (caQ w F A (f) v (if okN x np = true then 0 else 1) (some (.int (if okN x np = true then (if n < 0 then -1 else sinF (turnF f (cN x)) (if dl = true then -8 else 8) n) else 0)))) (caX (cW w F A L) (if okN x np = true then 0 else 1) 2 2) := by
  have h60 := hI.p60
  have h20 := hI.m20
  have h16 := hI.c16
  have h10 := hI.t10
  have h200 := hI.s200
  have hh200 := hI.h200
  refine ev_X10_singular ?_ (Nat.le_of_ble_eq_true rfl)
  refine x_lo (lo' := [some (.ref 0), some (.int x), some (.int n), some (.int (bI dl))]) rfl ?_
  refine x_al rfl rfl ?_
  refine x_il rfl rfl ?_
  refine x_call2 (c_needPrint hR.1.2.2.2.2.1 (by omega) hn) rfl (Nat.le_of_ble_eq_true rfl) (Or.inl (by first | exact hn | assumption)) (rcv_at (cw_fs (by with_reducible exact sp_0) hn) (by decide) (by decide)) (Nat.le_of_ble_eq_true rfl) (Nat.le_of_ble_eq_true rfl) (fun E w9 hq => ⟨rfl, by obtain ⟨h9, rfl, rfl⟩ := hq; exact ⟨rfl, Or.inl ⟨if_neg (fun h8 => fne h9 h8), rfl⟩⟩⟩) ?_
  rintro v9 w9 ⟨h1, rfl, rfl⟩
  refine x_al rfl rfl ?_
  refine x_getC rfl hn (by with_reducible exact sp_0) (by exact rfl) ?_
  refine x_getC rfl hn (by with_reducible exact (by first | exact sp_6 | exact st_0 (by assumption))) (by exact rfl) ?_
  obtain ⟨p, hp, rfl, ep⟩ := ok_of h1 (by omega)
  refine x_il rfl rfl ?_
  refine x_aaC rfl hn (by with_reducible exact sp_7) (by decide) (by omega) ?_
  refine x_il rfl rfl ?_
  refine x_il rfl rfl ?_
  have e9 : ∀ t : Int32, (if n < 0 then (-1 : Int32) else sinF (turnF f p) t n) = sinF (turnF f p) t n := fun t => by
    by_cases hn0 : n < 0
    · rw [if_pos hn0, sinF_neg hn0]
    · rw [if_neg hn0]
  cases dl with
  | true =>
    refine x_ifeq rfl (fun e8 => absurd e8 (show ¬ (1 : Int32) = 0 by decide)) (fun e8 => ?_)
    refine x_c rfl ?_
    refine x_go rfl ?_
    refine x_call3 (c_cornerOf (prA (by omega)) (hR.pr hp).1 (hI.ce hp) hn) rfl (Nat.le_of_ble_eq_true rfl) (Or.inl (by first | exact hn | assumption)) (rcv_at (cw_fs (by with_reducible exact pr_0 (by first | assumption | exact prA (by omega) | exact prD | exact prB (by assumption) (by omega))) hn) (by decide) (by decide)) (Nat.le_of_ble_eq_true rfl) (Nat.le_of_ble_eq_true rfl) (fun E w9 hq => hq.elim) ?_
    rintro v9 w9 ⟨rfl, rfl⟩
    refine x_reti rfl (Nat.le_of_ble_eq_true rfl) (Nat.le_of_ble_eq_true rfl) rfl ?_
    exact ca_ro hK hR hI (by rw [if_pos h1, ep, e9, if_pos rfl]) (if_pos h1)
  | false =>
    refine x_ifeq rfl (fun e8 => ?_) (fun e8 => absurd rfl e8)
    refine x_c rfl ?_
    refine x_call3 (c_cornerOf (prA (by omega)) (hR.pr hp).1 (hI.ce hp) hn) rfl (Nat.le_of_ble_eq_true rfl) (Or.inl (by first | exact hn | assumption)) (rcv_at (cw_fs (by with_reducible exact pr_0 (by first | assumption | exact prA (by omega) | exact prD | exact prB (by assumption) (by omega))) hn) (by decide) (by decide)) (Nat.le_of_ble_eq_true rfl) (Nat.le_of_ble_eq_true rfl) (fun E w9 hq => hq.elim) ?_
    rintro v9 w9 ⟨rfl, rfl⟩
    refine x_reti rfl (Nat.le_of_ble_eq_true rfl) (Nat.le_of_ble_eq_true rfl) rfl ?_
    exact ca_ro hK hR hI (by rw [if_pos h1, ep, e9, if_neg (by decide)]) (if_pos h1)
theorem c_verdict {x y day : Int32} (hK : KI F A f np nm v) (hR : RS F A f 6 np nm nc nt ns nh) (hI : IV f np nm nc nt ns nh) (hn : w.1 = N0) : Ev g (d + 14) 133 [.ref 0, .int x, .int y, .int day] (cW w F A L) (caQ w F A (f) v (if okN x nm = true ∧ okN y np = true then 0 else 1) (some (.int (if okN x nm = true ∧ okN y np = true then vM f nt (cN x) (cN y) day else 0)))) (caX (cW w F A L) (if okN x nm = true ∧ okN y np = true then 0 else 1) 2 2) := by
  have h60 := hI.p60
  have h20 := hI.m20
  have h16 := hI.c16
  have h10 := hI.t10
  have h200 := hI.s200
  have hh200 := hI.h200
  refine ev_X10_verdict ?_ (Nat.le_of_ble_eq_true rfl)
  refine x_lo (lo' := [some (.ref 0), some (.int x), some (.int y), some (.int day)]) rfl ?_
  refine x_al rfl rfl ?_
  refine x_il rfl rfl ?_
  refine x_call2 (c_needMark hR.1.2.2.2.2.2.1 (by omega) hn) rfl (Nat.le_of_ble_eq_true rfl) (Or.inl (by first | exact hn | assumption)) (rcv_at (cw_fs (by with_reducible exact sp_0) hn) (by decide) (by decide)) (Nat.le_of_ble_eq_true rfl) (Nat.le_of_ble_eq_true rfl) (fun E w9 hq => ⟨rfl, by obtain ⟨h9, rfl, rfl⟩ := hq; exact ⟨rfl, Or.inl ⟨if_neg (fun h8 => fne h9 h8.1), rfl⟩⟩⟩) ?_
  rintro v9 w9 ⟨h1, rfl, rfl⟩
  refine x_al rfl rfl ?_
  refine x_il rfl rfl ?_
  refine x_call2 (c_needPrint hR.1.2.2.2.2.1 (by omega) hn) rfl (Nat.le_of_ble_eq_true rfl) (Or.inl (by first | exact hn | assumption)) (rcv_at (cw_fs (by with_reducible exact sp_0) hn) (by decide) (by decide)) (Nat.le_of_ble_eq_true rfl) (Nat.le_of_ble_eq_true rfl) (fun E w9 hq => ⟨rfl, by obtain ⟨h9, rfl, rfl⟩ := hq; exact ⟨rfl, Or.inl ⟨if_neg (fun h8 => fne h9 h8.2), rfl⟩⟩⟩) ?_
  rintro v9 w9 ⟨h2, rfl, rfl⟩
  refine x_al rfl rfl ?_
  refine x_getC rfl hn (by with_reducible exact sp_0) (by exact rfl) ?_
  refine x_il rfl rfl ?_
  obtain ⟨k, hk, rfl, ek⟩ := ok_of h1 (by omega)
  obtain ⟨p, hp, rfl, ep⟩ := ok_of h2 (by omega)
  refine x_call2 (c_textOn (day := day) hR h10 hn) rfl (Nat.le_of_ble_eq_true rfl) (Or.inl (by first | exact hn | assumption)) (rcv_at (cw_fs (by with_reducible exact (by first | exact sp_6 | exact st_0 (by assumption))) hn) (by decide) (by decide)) (Nat.le_of_ble_eq_true rfl) (Nat.le_of_ble_eq_true rfl) (fun E w9 hq => hq.elim) ?_
  rintro v9 w9 ⟨rfl, rfl⟩
  refine x_al rfl rfl ?_
  refine x_il rfl rfl ?_
  refine x_il rfl rfl ?_
  refine x_il rfl rfl ?_
  refine x_call4 (c_decidingRule (day := day) hK hR hI hk hp hn) rfl (Nat.le_of_ble_eq_true rfl) (Or.inl (by first | exact hn | assumption)) (rcv_at (cw_fs (by with_reducible exact sp_0) hn) (by decide) (by decide)) (Nat.le_of_ble_eq_true rfl) (Nat.le_of_ble_eq_true rfl) (fun E w9 hq => hq.elim) ?_
  rintro v9 w9 ⟨F1, A1, L1, rfl, hs1, hK1, rfl, _⟩
  have hR1 := hR.keep hI (fun q h1 h2 => hs1 q (by omega))
  refine x_call2 (c_verdictBy (te_b h10) (hR1.txo day) hn) rfl (Nat.le_of_ble_eq_true rfl) (Or.inl (by first | exact hn | assumption)) (rcv_at (cw_fs (by with_reducible exact te_0 (by first | assumption | exact teA (by omega) | exact teN | exact teD | exact te_b (by assumption) | exact teB (by assumption) (by omega))) hn) (by decide) (by decide)) (Nat.le_of_ble_eq_true rfl) (Nat.le_of_ble_eq_true rfl) (fun E w9 hq => hq.elim) ?_
  rintro v9 w9 ⟨rfl, rfl⟩
  refine x_reti rfl (Nat.le_of_ble_eq_true rfl) (Nat.le_of_ble_eq_true rfl) rfl ?_
  exact ca_sx hR hI (fun q hq => hs1 q (by omega)) hK1 (by rw [if_pos ⟨h1, h2⟩, ek, ep]; rfl) (if_pos ⟨h1, h2⟩)
theorem c_why {x y day : Int32} (hK : KI F A f np nm v) (hR : RS F A f 6 np nm nc nt ns nh) (hI : IV f np nm nc nt ns nh) (hn : w.1 = N0) : Ev g (d + 14) 134 [.ref 0, .int x, .int y, .int day] (cW w F A L) (caQ w F A (f) v (if okN x nm = true ∧ okN y np = true then 0 else 1) (some (.int (if okN x nm = true ∧ okN y np = true then whyF f nt (cN x) (cN y) day else 0)))) (caX (cW w F A L) (if okN x nm = true ∧ okN y np = true then 0 else 1) 2 2) := by
  have h60 := hI.p60
  have h20 := hI.m20
  have h16 := hI.c16
  have h10 := hI.t10
  have h200 := hI.s200
  have hh200 := hI.h200
  refine ev_X10_why ?_ (Nat.le_of_ble_eq_true rfl)
  refine x_lo (lo' := [some (.ref 0), some (.int x), some (.int y), some (.int day)]) rfl ?_
  refine x_al rfl rfl ?_
  refine x_il rfl rfl ?_
  refine x_call2 (c_needMark hR.1.2.2.2.2.2.1 (by omega) hn) rfl (Nat.le_of_ble_eq_true rfl) (Or.inl (by first | exact hn | assumption)) (rcv_at (cw_fs (by with_reducible exact sp_0) hn) (by decide) (by decide)) (Nat.le_of_ble_eq_true rfl) (Nat.le_of_ble_eq_true rfl) (fun E w9 hq => ⟨rfl, by obtain ⟨h9, rfl, rfl⟩ := hq; exact ⟨rfl, Or.inl ⟨if_neg (fun h8 => fne h9 h8.1), rfl⟩⟩⟩) ?_
  rintro v9 w9 ⟨h1, rfl, rfl⟩
  refine x_al rfl rfl ?_
  refine x_il rfl rfl ?_
  refine x_call2 (c_needPrint hR.1.2.2.2.2.1 (by omega) hn) rfl (Nat.le_of_ble_eq_true rfl) (Or.inl (by first | exact hn | assumption)) (rcv_at (cw_fs (by with_reducible exact sp_0) hn) (by decide) (by decide)) (Nat.le_of_ble_eq_true rfl) (Nat.le_of_ble_eq_true rfl) (fun E w9 hq => ⟨rfl, by obtain ⟨h9, rfl, rfl⟩ := hq; exact ⟨rfl, Or.inl ⟨if_neg (fun h8 => fne h9 h8.2), rfl⟩⟩⟩) ?_
  rintro v9 w9 ⟨h2, rfl, rfl⟩
  refine x_al rfl rfl ?_
  refine x_il rfl rfl ?_
  refine x_il rfl rfl ?_
  refine x_il rfl rfl ?_
  obtain ⟨k, hk, rfl, ek⟩ := ok_of h1 (by omega)
  obtain ⟨p, hp, rfl, ep⟩ := ok_of h2 (by omega)
  refine x_call4 (c_decidingRule (day := day) hK hR hI hk hp hn) rfl (Nat.le_of_ble_eq_true rfl) (Or.inl (by first | exact hn | assumption)) (rcv_at (cw_fs (by with_reducible exact sp_0) hn) (by decide) (by decide)) (Nat.le_of_ble_eq_true rfl) (Nat.le_of_ble_eq_true rfl) (fun E w9 hq => hq.elim) ?_
  rintro v9 w9 ⟨F1, A1, L1, rfl, hs1, hK1, rfl, _⟩
  refine x_reti rfl (Nat.le_of_ble_eq_true rfl) (Nat.le_of_ble_eq_true rfl) rfl ?_
  exact ca_sx hR hI (fun q hq => hs1 q (by omega)) hK1 (by rw [if_pos ⟨h1, h2⟩, ek, ep]; rfl) (if_pos ⟨h1, h2⟩)
theorem c_alike {x y day : Int32} (hK : KI F A f np nm v) (hR : RS F A f 6 np nm nc nt ns nh) (hI : IV f np nm nc nt ns nh) (hn : w.1 = N0) : Ev g (d + 15) 141 [.ref 0, .int x, .int y, .int day] (cW w F A L) (caQ w F A (f) v (if okN x nc = true ∧ okN y nc = true then 0 else 1) (some (.int (if okN x nc = true ∧ okN y nc = true then nI (alkN f nt (min (cN x) (cN y)) (max (cN x) (cN y)) day 10) else 0)))) (caX (cW w F A L) (if okN x nc = true ∧ okN y nc = true then 0 else 1) 2 2) := by
  have h60 := hI.p60
  have h20 := hI.m20
  have h16 := hI.c16
  have h10 := hI.t10
  have h200 := hI.s200
  have hh200 := hI.h200
  refine ev_X10_alike ?_ (Nat.le_of_ble_eq_true rfl)
  refine x_lo (lo' := [some (.ref 0), some (.int x), some (.int y), some (.int day)]) rfl ?_
  refine x_al rfl rfl ?_
  refine x_il rfl rfl ?_
  refine x_call2 (c_needCard hR.1.2.2.2.2.2.2.1 (by omega) hn) rfl (Nat.le_of_ble_eq_true rfl) (Or.inl (by first | exact hn | assumption)) (rcv_at (cw_fs (by with_reducible exact sp_0) hn) (by decide) (by decide)) (Nat.le_of_ble_eq_true rfl) (Nat.le_of_ble_eq_true rfl) (fun E w9 hq => ⟨rfl, by obtain ⟨h9, rfl, rfl⟩ := hq; exact ⟨rfl, Or.inl ⟨if_neg (fun h8 => fne h9 h8.1), rfl⟩⟩⟩) ?_
  rintro v9 w9 ⟨h1, rfl, rfl⟩
  refine x_al rfl rfl ?_
  refine x_il rfl rfl ?_
  refine x_call2 (c_needCard hR.1.2.2.2.2.2.2.1 (by omega) hn) rfl (Nat.le_of_ble_eq_true rfl) (Or.inl (by first | exact hn | assumption)) (rcv_at (cw_fs (by with_reducible exact sp_0) hn) (by decide) (by decide)) (Nat.le_of_ble_eq_true rfl) (Nat.le_of_ble_eq_true rfl) (fun E w9 hq => ⟨rfl, by obtain ⟨h9, rfl, rfl⟩ := hq; exact ⟨rfl, Or.inl ⟨if_neg (fun h8 => fne h9 h8.2), rfl⟩⟩⟩) ?_
  rintro v9 w9 ⟨h2, rfl, rfl⟩
  refine x_al rfl rfl ?_
  refine x_il rfl rfl ?_
  refine x_il rfl rfl ?_
  obtain ⟨a, ha, rfl, ea⟩ := ok_of h1 (by omega)
  obtain ⟨b, hb, rfl, eb⟩ := ok_of h2 (by omega)
  refine x_icgeN rfl (by omega) (fun c1 => ?_) (fun c1 => ?_)
  · refine x_il rfl rfl ?_
    refine x_il rfl rfl ?_
    refine x_il rfl rfl ?_
    refine x_icgeN rfl (by omega) (fun c2 => ?_) (fun c2 => ?_)
    rotate_left
    · refine x_il rfl rfl ?_
      refine x_go rfl ?_
      refine x_il rfl rfl ?_
      exact absurd c1 (by omega)
    refine x_il rfl rfl ?_
    refine x_il rfl rfl ?_
    refine x_call4 (c_alikeFingers (a := b) (b := a) (day := day) hK hR hI hb ha hn) rfl (Nat.le_of_ble_eq_true rfl) (Or.inl (by first | exact hn | assumption)) (rcv_at (cw_fs (by with_reducible exact sp_0) hn) (by decide) (by decide)) (Nat.le_of_ble_eq_true rfl) (Nat.le_of_ble_eq_true rfl) (fun E w9 hq => hq.elim) ?_
    rintro v9 w9 ⟨F1, A1, L1, rfl, hs1, hK1, rfl⟩
    refine x_reti rfl (Nat.le_of_ble_eq_true rfl) (Nat.le_of_ble_eq_true rfl) rfl ?_
    exact ca_sx hR hI (fun q hq => hs1 q (by omega)) hK1 (by rw [if_pos ⟨h1, h2⟩, ea, eb, show min a b = b by omega, show max a b = a by omega]) (if_pos ⟨h1, h2⟩)
  refine x_il rfl rfl ?_
  refine x_go rfl ?_
  refine x_il rfl rfl ?_
  refine x_il rfl rfl ?_
  refine x_icgeN rfl (by omega) (fun c2 => ?_) (fun c2 => ?_)
  · refine x_il rfl rfl ?_
    refine x_il rfl rfl ?_
    exact absurd c1 (by omega)
  refine x_il rfl rfl ?_
  refine x_go rfl ?_
  refine x_il rfl rfl ?_
  refine x_call4 (c_alikeFingers (a := a) (b := b) (day := day) hK hR hI ha hb hn) rfl (Nat.le_of_ble_eq_true rfl) (Or.inl (by first | exact hn | assumption)) (rcv_at (cw_fs (by with_reducible exact sp_0) hn) (by decide) (by decide)) (Nat.le_of_ble_eq_true rfl) (Nat.le_of_ble_eq_true rfl) (fun E w9 hq => hq.elim) ?_
  rintro v9 w9 ⟨F1, A1, L1, rfl, hs1, hK1, rfl⟩
  refine x_reti rfl (Nat.le_of_ble_eq_true rfl) (Nat.le_of_ble_eq_true rfl) rfl ?_
  exact ca_sx hR hI (fun q hq => hs1 q (by omega)) hK1 (by rw [if_pos ⟨h1, h2⟩, ea, eb, show min a b = a by omega, show max a b = b by omega]) (if_pos ⟨h1, h2⟩)
end CALLS
