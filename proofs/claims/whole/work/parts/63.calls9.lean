/-! persons, look, count; mset_ -/
def twoB (f : Nat → Int32) (ls : Nat → Int32) (c : Nat) (x : Nat) : Bool := decide (ls x = nI c ∧ ¬ f (6607 + 26 * x + 0) = f (6607 + 26 * c + 0))
def anyF (P : Nat → Bool) (a : Nat) : Nat → Bool
  | 0 => false
  | k + 1 => anyF P a k || P (a + k)
def perB (f : Nat → Int32) (ls : Nat → Int32) (nc : Nat) (nm : Bool) (c : Nat) : Bool := decide (ls c = nI c) && (!nm || anyF (twoB f ls c) (c + 1) (nc - (c + 1)))
section CALLS
variable {g : aG} {d : Nat} {w : aW} {m f : Nat → Int32} {A : Nat → Nat → Int32} {B : Nat → Nat → Int64}
theorem r_persons {day : Int32} {nm : Bool} {n nc : Nat} (hT : WT f n) (hW : WP f) (hF1 : WF1 f nc) (hn : w.1 = N0) : Ev g (d + 15) 281 [.ref 1424, .int day, .int (bI nm)] (rW w m f A B) (OpQ w m f A (some (.int (nI (cn (perB f (leastF f n nc day (A 1437)) nc nm) nc)))) 0) noX := by
  have hnc := hF1.2.1
  refine ev_X11_persons ?_ (Nat.le_of_ble_eq_true rfl)
  refine x_lo (lo' := [some (.ref 1424), some (.int day), some (.int (bI nm)), none, none, none, none]) rfl ?_
  refine x_al rfl rfl ?_
  refine x_c rfl ?_
  refine x_putM rfl hn rfl rfl rfl (mset_0 _ _) ?_
  refine x_al rfl rfl ?_
  refine x_il rfl rfl ?_
  refine x_call2 (n_joins hT hW hF1 hn) rfl (Nat.le_of_ble_eq_true rfl) (Or.inl (by first | exact hn | assumption)) (rcv_at (by first | exact rw_md hn | exact rw_w hn | exact rw_A hn (by exact rfl) | exact rw_B2 hn | exact rw_B3 hn | assumption) (by decide) (by decide)) (Nat.le_of_ble_eq_true rfl) (Nat.le_of_ble_eq_true rfl) (fun E w9 hq => hq.elim) ?_
  rintro v9 w9 ⟨rfl, M', A2, rfl, hk', hA', hL⟩
  refine x_c rfl ?_
  refine x_is (lo' := [_, _, _, _, _, _, _]) rfl (Nat.le_of_ble_eq_true rfl) rfl ?_
  refine x_c rfl ?_
  refine x_is (lo' := [_, _, _, _, _, _, _]) rfl (Nat.le_of_ble_eq_true rfl) rfl ?_
  generalize leastF f n nc day (A 1437) = ls at *
  have loop : ∀ c, c ≤ nc → ∀ l5 l6, EX g mbOf (Ev g (d + 14)) (infoOf 281) k_X11_persons (OpQ w m f A (some (.int (nI (cn (perB f ls nc nm) nc)))) 0) noX w.1 (rW w M' f A2 B) 0 0 10 [some (.ref 1424), some (.int day), some (.int (bI nm)), some (.int (nI (cn (perB f ls nc nm) c))), some (.int (nI c)), l5, l6] [] := by
    refine downN nc fun c hc ih => ?_
    intro l5 l6
    refine x_il rfl rfl ?_
    refine x_al rfl rfl ?_
    refine x_get rfl (rw_md hn) (by exact rfl) ?_
    refine x_c rfl ?_
    refine x_iaN (j := 6606) rfl (by first | exact rw_md hn | exact rw_w hn | exact rw_A hn (by exact rfl) | exact rw_B2 hn | exact rw_B3 hn | assumption) (by omega) ?_
    rw [hF1.1]
    refine x_icgeN rfl (by omega) (fun c0 => ?_) (fun c0 => ?_)
    · refine x_il rfl rfl ?_
      refine x_reti rfl (Nat.le_of_ble_eq_true rfl) (Nat.le_of_ble_eq_true rfl) rfl ?_
      obtain rfl : c = nc := by omega
      exact opq_b hk' hA'
    refine x_al rfl rfl ?_
    refine x_get rfl (rw_md hn) (by exact rfl) ?_
    refine x_il rfl rfl ?_
    refine x_iaN rfl (by first | exact rw_md hn | exact rw_w hn | exact rw_A hn (by exact rfl) | exact rw_B2 hn | exact rw_B3 hn | assumption) (by omega) ?_
    rw [hL]
    refine x_il rfl rfl ?_
    have ih := ih c0
    have hst : cn (perB f ls nc nm) (c + 1) = cn (perB f ls nc nm) c + if perB f ls nc nm c = true then 1 else 0 := rfl
    rw [hst] at ih
    generalize cn (perB f ls nc nm) c = pn at *
    have skip : perB f ls nc nm c = false → ∀ l5 l6, EX g mbOf (Ev g (d + 14)) (infoOf 281) k_X11_persons (OpQ w m f A (some (.int (nI (cn (perB f ls nc nm) nc)))) 0) noX w.1 (rW w M' f A2 B) 0 0 68 [some (.ref 1424), some (.int day), some (.int (bI nm)), some (.int (nI pn)), some (.int (nI c)), l5, l6] [] := by
      intro h l5 l6
      rw [if_neg (by rw [h]; decide)] at ih
      refine x_inc1 (lo' := [_, _, _, _, _, _, _]) rfl rfl rfl ?_
      refine x_go rfl ?_
      exact ih _ _
    have fin : ∀ z : Bool, z = perB f ls nc nm c → ∀ l5 l6, EX g mbOf (Ev g (d + 14)) (infoOf 281) k_X11_persons (OpQ w m f A (some (.int (nI (cn (perB f ls nc nm) nc)))) 0) noX w.1 (rW w M' f A2 B) 0 0 66 [some (.ref 1424), some (.int day), some (.int (bI nm)), some (.int (nI pn)), some (.int (nI c)), l5, l6] [.int (nI (if z = true then 1 else 0)), .int (nI pn)] := by
      intro z hz l5 l6
      rw [← hz] at ih
      refine x_addN rfl ?_
      refine x_is (lo' := [_, _, _, _, _, _, _]) rfl (Nat.le_of_ble_eq_true rfl) rfl ?_
      refine x_inc1 (lo' := [_, _, _, _, _, _, _]) rfl rfl rfl ?_
      refine x_go rfl ?_
      exact ih _ _
    refine x_iceq rfl (fun c1 => ?_) (fun c1 => ?_)
    rotate_left
    · refine x_go rfl ?_
      exact skip (by unfold perB; rw [decide_eq_false c1]; rfl) _ _
    refine x_c rfl ?_
    refine x_is (lo' := [_, _, _, _, _, _, _]) rfl (Nat.le_of_ble_eq_true rfl) rfl ?_
    refine x_il rfl rfl ?_
    refine x_c rfl ?_
    refine x_addN (y := 1) rfl ?_
    refine x_is (lo' := [_, _, _, _, _, _, _]) rfl (Nat.le_of_ble_eq_true rfl) rfl ?_
    have inner : ∀ k, k ≤ nc - (c + 1) → EX g mbOf (Ev g (d + 14)) (infoOf 281) k_X11_persons (OpQ w m f A (some (.int (nI (cn (perB f ls nc nm) nc)))) 0) noX w.1 (rW w M' f A2 B) 0 0 29 [some (.ref 1424), some (.int day), some (.int (bI nm)), some (.int (nI pn)), some (.int (nI c)), some (.int (bI (anyF (twoB f ls c) (c + 1) k))), some (.int (nI (c + 1 + k)))] [] := by
      refine downN (nc - (c + 1)) fun k hk ihk => ?_
      refine x_il rfl rfl ?_
      refine x_al rfl rfl ?_
      refine x_get rfl (rw_md hn) (by exact rfl) ?_
      refine x_c rfl ?_
      refine x_iaN (j := 6606) rfl (by first | exact rw_md hn | exact rw_w hn | exact rw_A hn (by exact rfl) | exact rw_B2 hn | exact rw_B3 hn | assumption) (by omega) ?_
      rw [hF1.1]
      refine x_icgeN rfl (by omega) (fun c2 => ?_) (fun c2 => ?_)
      · refine x_il rfl rfl ?_
        refine x_il rfl rfl ?_
        obtain rfl : k = nc - (c + 1) := by omega
        have hp : perB f ls nc nm c = (!nm || anyF (twoB f ls c) (c + 1) (nc - (c + 1))) := by unfold perB; rw [decide_eq_true c1]; rfl
        cases nm with
        | false =>
          refine x_ifeq rfl (fun cx => ?_) (fun cx => absurd rfl cx)
          refine x_c rfl ?_
          refine x_go rfl ?_
          exact fin true (by rw [hp]; rfl) _ _
        | true =>
          refine x_ifeq rfl (fun cx => absurd cx (show ¬ (1 : Int32) = 0 by decide)) (fun cx => ?_)
          refine x_il rfl rfl ?_
          cases ha : anyF (twoB f ls c) (c + 1) (nc - (c + 1)) with
          | true =>
            refine x_ifeq rfl (fun cx => absurd cx (show ¬ (1 : Int32) = 0 by decide)) (fun cx => ?_)
            refine x_c rfl ?_
            refine x_go rfl ?_
            exact fin true (by rw [hp, ha]; rfl) _ _
          | false =>
            refine x_ifeq rfl (fun cx => ?_) (fun cx => absurd rfl cx)
            refine x_c rfl ?_
            exact fin false (by rw [hp, ha]; rfl) _ _
      refine x_il rfl rfl ?_
      have ihk := ihk (by omega)
      rw [show anyF (twoB f ls c) (c + 1) (k + 1) = (anyF (twoB f ls c) (c + 1) k || twoB f ls c (c + 1 + k)) from rfl] at ihk
      generalize hb : c + 1 + k = b at *
      rw [show c + 1 + (k + 1) = b + 1 by omega] at ihk
      have fink : ∀ z : Bool, z = (anyF (twoB f ls c) (c + 1) k || twoB f ls c b) → EX g mbOf (Ev g (d + 14)) (infoOf 281) k_X11_persons (OpQ w m f A (some (.int (nI (cn (perB f ls nc nm) nc)))) 0) noX w.1 (rW w M' f A2 B) 0 0 55 [some (.ref 1424), some (.int day), some (.int (bI nm)), some (.int (nI pn)), some (.int (nI c)), some (.int (bI (anyF (twoB f ls c) (c + 1) k))), some (.int (nI b))] [.int (bI z)] := by
        intro z hz
        rw [← hz] at ihk
        refine x_is (lo' := [_, _, _, _, _, _, _]) rfl (Nat.le_of_ble_eq_true rfl) rfl ?_
        refine x_inc1 (lo' := [_, _, _, _, _, _, _]) rfl rfl rfl ?_
        refine x_go rfl ?_
        exact ihk
      cases ha : anyF (twoB f ls c) (c + 1) k with
      | true =>
        rw [ha] at fink
        refine x_ifne rfl (fun cx => ?_) (fun cx => absurd cx (show ¬ (1 : Int32) = 0 by decide))
        refine x_c rfl ?_
        refine x_go rfl ?_
        exact fink true rfl
      | false =>
        rw [ha] at fink
        refine x_ifne rfl (fun cx => absurd rfl cx) (fun cx => ?_)
        refine x_al rfl rfl ?_
        refine x_get rfl (rw_md hn) (by exact rfl) ?_
        refine x_il rfl rfl ?_
        refine x_iaN rfl (by first | exact rw_md hn | exact rw_w hn | exact rw_A hn (by exact rfl) | exact rw_B2 hn | exact rw_B3 hn | assumption) (by omega) ?_
        rw [hL]
        refine x_il rfl rfl ?_
        refine x_icne rfl (fun c3 => ?_) (fun c3 => ?_)
        · refine x_c rfl ?_
          exact fink false (by unfold twoB; rw [decide_eq_false (fun h => c3 h.1)]; rfl)
        refine x_al rfl rfl ?_
        refine x_il rfl rfl ?_
        refine x_c rfl ?_
        refine x_call3 (n_of (k := 0) (by omega) hn) rfl (Nat.le_of_ble_eq_true rfl) (Or.inl (by first | exact hn | assumption)) (rcv_at (by first | exact rw_md hn | exact rw_w hn | exact rw_A hn (by exact rfl) | exact rw_B2 hn | exact rw_B3 hn | assumption) (by decide) (by decide)) (Nat.le_of_ble_eq_true rfl) (Nat.le_of_ble_eq_true rfl) (fun E w9 hq => hq.elim) ?_
        rintro v9 w9 ⟨rfl, rfl⟩
        refine x_al rfl rfl ?_
        refine x_il rfl rfl ?_
        refine x_c rfl ?_
        refine x_call3 (n_of (k := 0) (by omega) hn) rfl (Nat.le_of_ble_eq_true rfl) (Or.inl (by first | exact hn | assumption)) (rcv_at (by first | exact rw_md hn | exact rw_w hn | exact rw_A hn (by exact rfl) | exact rw_B2 hn | exact rw_B3 hn | assumption) (by decide) (by decide)) (Nat.le_of_ble_eq_true rfl) (Nat.le_of_ble_eq_true rfl) (fun E w9 hq => hq.elim) ?_
        rintro v9 w9 ⟨rfl, rfl⟩
        refine x_iceq rfl (fun c4 => ?_) (fun c4 => ?_)
        · refine x_c rfl ?_
          exact fink false (by unfold twoB; rw [decide_eq_false (fun h => h.2 c4)]; rfl)
        refine x_c rfl ?_
        refine x_go rfl ?_
        exact fink true (by unfold twoB; rw [decide_eq_true ⟨c3, c4⟩]; rfl)
    exact inner 0 (Nat.zero_le _)
  exact loop 0 (Nat.zero_le _) _ _
def lookF (f : Nat → Int32) (nh c v : Nat) : Int32 := if v < 3 then f (6607 + 26 * c + v) else if v = 3 then nI (cn (fun i => decide (0 ≤ f (6607 + 26 * c + (6 + i)))) 10) else if v = 4 then nI (cn (fun i => decide (0 ≤ f (6607 + 26 * c + (16 + i)))) 10) else nI (cn (fun k => decide (f (11425 + 7 * k + 1) = nI c)) nh)
theorem r_look {x v : Int32} {nc nh : Nat} (hc : f 6606 = nI nc) (h16 : nc ≤ 16) (hh : f 11424 = nI nh) (h200 : nh ≤ 200) (hn : w.1 = N0) : Ev g (d + 3) 289 [.ref 1424, .int x, .int v] (rW w m f A B) (OpQ w m f A (some (.int (if okN x nc = true ∧ okN v 6 = true then lookF f nh (cN x) (cN v) else 0))) (if okN x nc = true then (if okN v 6 = true then 0 else 2) else 1)) noX := by
  generalize hR : (if okN x nc = true ∧ okN v 6 = true then lookF f nh (cN x) (cN v) else 0) = R
  generalize hT : (if okN x nc = true then (if okN v 6 = true then (0 : Int32) else 2) else 1) = T
  refine ev_X11_look ?_ (Nat.le_of_ble_eq_true rfl)
  refine x_lo (lo' := [some (.ref 1424), some (.int x), some (.int v), none, none]) rfl ?_
  refine x_al rfl rfl ?_
  refine x_c rfl ?_
  refine x_putM rfl hn rfl rfl rfl (mset_0 _ _) ?_
  refine x_al rfl rfl ?_
  refine x_al rfl rfl ?_
  refine x_il rfl rfl ?_
  refine x_call2 (n_noCard hc (by omega) hn) rfl (Nat.le_of_ble_eq_true rfl) (Or.inl (by first | exact hn | assumption)) (rcv_at (by first | exact rw_md hn | exact rw_w hn | exact rw_A hn (by exact rfl) | exact rw_B2 hn | exact rw_B3 hn | assumption) (by decide) (by decide)) (Nat.le_of_ble_eq_true rfl) (Nat.le_of_ble_eq_true rfl) (fun E w9 hq => hq.elim) ?_
  rintro v9 w9 ⟨rfl, rfl⟩
  refine x_c rfl ?_
  refine x_call3 (n_throwsIf hn) rfl (Nat.le_of_ble_eq_true rfl) (Or.inl (by first | exact hn | assumption)) (rcv_at (by first | exact rw_md hn | exact rw_w hn | exact rw_A hn (by exact rfl) | exact rw_B2 hn | exact rw_B3 hn | assumption) (by decide) (by decide)) (Nat.le_of_ble_eq_true rfl) (Nat.le_of_ble_eq_true rfl) (fun E w9 hq => hq.elim) ?_
  rintro v9 w9 ⟨rfl, rfl⟩
  cases hb : okN x nc with
  | false =>
    rw [if_neg (fun q => by have h1 := q.1; rw [hb] at h1; exact absurd h1 (by decide))] at hR
    rw [if_neg (by rw [hb]; decide)] at hT
    subst hR; subst hT
    refine x_ifeq rfl (fun c => absurd c (show ¬ (1 : Int32) = 0 by decide)) (fun c => ?_)
    refine x_c rfl ?_
    refine x_reti rfl (Nat.le_of_ble_eq_true rfl) (Nat.le_of_ble_eq_true rfl) rfl ?_
    exact opq_t
  | true =>
    obtain ⟨p, hp, ep, hcn⟩ := ok_of hb (by omega)
    rw [if_pos hb] at hT
    refine x_ifeq rfl (fun c => ?_) (fun c => absurd rfl c)
    refine x_c rfl ?_
    refine x_is (lo' := [_, _, _, _, _]) rfl (Nat.le_of_ble_eq_true rfl) rfl ?_
    refine x_il rfl rfl ?_
    cases hb2 : okN v 6 with
    | false =>
      rw [if_neg (fun q => by have h1 := q.2; rw [hb2] at h1; exact absurd h1 (by decide))] at hR
      rw [if_neg (by rw [hb2]; decide)] at hT
      subst hR; subst hT
      refine x_swD rfl ?_ ?_
      · have h1 := of_decide_eq_false hb2
        rcases Int.lt_or_le v.toInt 0 with h | h
        · exact Or.inl h
        · right
          rcases Int.lt_or_le v.toInt 6 with h2 | h2
          · exact absurd ⟨Int32.le_iff_toInt_le.mpr h, Int32.lt_iff_toInt_lt.mpr h2⟩ h1
          · exact h2
      refine x_al rfl rfl ?_
      refine x_c rfl ?_
      refine x_putM rfl hn rfl rfl rfl (mset_0 _ _) ?_
      refine x_c rfl ?_
      refine x_reti rfl (Nat.le_of_ble_eq_true rfl) (Nat.le_of_ble_eq_true rfl) rfl ?_
      exact opq_t
    | true =>
      obtain ⟨u, hu, eu, hcn2⟩ := ok_of hb2 (by omega)
      rw [if_pos ⟨hb, hb2⟩, hcn, hcn2] at hR
      rw [if_pos hb2] at hT
      subst ep; subst eu; subst hT
      have tell : u < 3 → EX g mbOf (Ev g (d + 2)) (infoOf 289) k_X11_look (OpQ w m f A (some (.int R)) 0) noX w.1 (rW w (upd m 0 0) f A B) 0 0 16 [some (.ref 1424), some (.int (nI p)), some (.int (nI u)), some (.int 0), none] [] := by
        intro h
        refine x_al rfl rfl ?_
        refine x_il rfl rfl ?_
        refine x_il rfl rfl ?_
        refine x_call3 (n_of (by omega) hn) rfl (Nat.le_of_ble_eq_true rfl) (Or.inl (by first | exact hn | assumption)) (rcv_at (by first | exact rw_md hn | exact rw_w hn | exact rw_A hn (by exact rfl) | exact rw_B2 hn | exact rw_B3 hn | assumption) (by decide) (by decide)) (Nat.le_of_ble_eq_true rfl) (Nat.le_of_ble_eq_true rfl) (fun E w9 hq => hq.elim) ?_
        rintro v9 w9 ⟨rfl, rfl⟩
        refine x_reti rfl (Nat.le_of_ble_eq_true rfl) (Nat.le_of_ble_eq_true rfl) rfl ?_
        rw [← hR]
        unfold lookF
        rw [if_pos h]
        exact opq_s
      have count : (u = 3 ∨ u = 4) → ∀ i, i ≤ 10 → EX g mbOf (Ev g (d + 2)) (infoOf 289) k_X11_look (OpQ w m f A (some (.int R)) 0) noX w.1 (rW w (upd m 0 0) f A B) 0 0 23 [some (.ref 1424), some (.int (nI p)), some (.int (nI u)), some (.int (nI (cn (fun i => decide (0 ≤ f (6607 + 26 * p + ((if u = 3 then 6 else 16) + i)))) i))), some (.int (nI i))] [] := by
        intro hu34
        refine downN 10 fun i hi ih => ?_
        refine x_il rfl rfl ?_
        refine x_c rfl ?_
        refine x_icgeN (y := 10) rfl (by omega) (fun c0 => ?_) (fun c0 => ?_)
        · refine x_il rfl rfl ?_
          refine x_reti rfl (Nat.le_of_ble_eq_true rfl) (Nat.le_of_ble_eq_true rfl) rfl ?_
          obtain rfl : i = 10 := by omega
          rw [← hR]
          unfold lookF
          rcases hu34 with rfl | rfl
          · exact opq_s
          · exact opq_s
        refine x_il rfl rfl ?_
        refine x_al rfl rfl ?_
        refine x_il rfl rfl ?_
        refine x_il rfl rfl ?_
        refine x_c rfl ?_
        have ih := ih c0
        have hst : cn (fun i => decide (0 ≤ f (6607 + 26 * p + ((if u = 3 then 6 else 16) + i)))) (i + 1) = cn (fun i => decide (0 ≤ f (6607 + 26 * p + ((if u = 3 then 6 else 16) + i)))) i + if decide (0 ≤ f (6607 + 26 * p + ((if u = 3 then 6 else 16) + i))) = true then 1 else 0 := rfl
        rw [hst] at ih
        generalize cn (fun i => decide (0 ≤ f (6607 + 26 * p + ((if u = 3 then 6 else 16) + i)))) i = o at *
        have fin : ∀ z : Nat, z = (if decide (0 ≤ f (6607 + 26 * p + ((if u = 3 then 6 else 16) + i))) = true then 1 else 0) → EX g mbOf (Ev g (d + 2)) (infoOf 289) k_X11_look (OpQ w m f A (some (.int R)) 0) noX w.1 (rW w (upd m 0 0) f A B) 0 0 42 [some (.ref 1424), some (.int (nI p)), some (.int (nI u)), some (.int (nI o)), some (.int (nI i))] [.int (nI z), .int (nI o)] := by
          intro z hz
          rw [← hz] at ih
          refine x_addN rfl ?_
          refine x_is (lo' := [_, _, _, _, _]) rfl (Nat.le_of_ble_eq_true rfl) rfl ?_
          refine x_inc1 (lo' := [_, _, _, _, _]) rfl rfl rfl ?_
          refine x_go rfl ?_
          exact ih
        rcases hu34 with rfl | rfl
        · refine x_icneN (y := 3) rfl (by omega) (fun c => absurd rfl c) (fun c => ?_)
          refine x_c rfl ?_
          refine x_go rfl ?_
          refine x_il rfl rfl ?_
          refine x_addN (x := 6) rfl ?_
          refine x_call3 (n_of (by omega) hn) rfl (Nat.le_of_ble_eq_true rfl) (Or.inl (by first | exact hn | assumption)) (rcv_at (by first | exact rw_md hn | exact rw_w hn | exact rw_A hn (by exact rfl) | exact rw_B2 hn | exact rw_B3 hn | assumption) (by decide) (by decide)) (Nat.le_of_ble_eq_true rfl) (Nat.le_of_ble_eq_true rfl) (fun E w9 hq => hq.elim) ?_
          rintro v9 w9 ⟨rfl, rfl⟩
          refine x_iflt rfl (fun c1 => ?_) (fun c1 => ?_)
          · refine x_c rfl ?_
            exact fin 0 (by rw [if_neg (by rw [decide_eq_true_iff]; exact Int32.not_le.mpr c1)])
          refine x_c rfl ?_
          refine x_go rfl ?_
          exact fin 1 (by rw [if_pos (by rw [decide_eq_true_iff]; exact Int32.not_lt.mp c1)])
        · refine x_icneN (y := 3) rfl (by omega) (fun c => ?_) (fun c => absurd c (by decide))
          refine x_c rfl ?_
          refine x_il rfl rfl ?_
          refine x_addN (x := 16) rfl ?_
          refine x_call3 (n_of (by omega) hn) rfl (Nat.le_of_ble_eq_true rfl) (Or.inl (by first | exact hn | assumption)) (rcv_at (by first | exact rw_md hn | exact rw_w hn | exact rw_A hn (by exact rfl) | exact rw_B2 hn | exact rw_B3 hn | assumption) (by decide) (by decide)) (Nat.le_of_ble_eq_true rfl) (Nat.le_of_ble_eq_true rfl) (fun E w9 hq => hq.elim) ?_
          rintro v9 w9 ⟨rfl, rfl⟩
          refine x_iflt rfl (fun c1 => ?_) (fun c1 => ?_)
          · refine x_c rfl ?_
            exact fin 0 (by rw [if_neg (by rw [decide_eq_true_iff]; exact Int32.not_le.mpr c1)])
          refine x_c rfl ?_
          refine x_go rfl ?_
          exact fin 1 (by rw [if_pos (by rw [decide_eq_true_iff]; exact Int32.not_lt.mp c1)])
      have hits : u = 5 → ∀ k, k ≤ nh → EX g mbOf (Ev g (d + 2)) (infoOf 289) k_X11_look (OpQ w m f A (some (.int R)) 0) noX w.1 (rW w (upd m 0 0) f A B) 0 0 50 [some (.ref 1424), some (.int (nI p)), some (.int (nI u)), some (.int (nI (cn (fun k => decide (f (11425 + 7 * k + 1) = nI p)) k))), some (.int (nI k))] [] := by
        intro hu5
        refine downN nh fun k hk ih => ?_
        refine x_il rfl rfl ?_
        refine x_al rfl rfl ?_
        refine x_get rfl (rw_md hn) (by exact rfl) ?_
        refine x_c rfl ?_
        refine x_iaN (j := 11424) rfl (by first | exact rw_md hn | exact rw_w hn | exact rw_A hn (by exact rfl) | exact rw_B2 hn | exact rw_B3 hn | assumption) (by omega) ?_
        rw [hh]
        refine x_icgeN rfl (by omega) (fun c0 => ?_) (fun c0 => ?_)
        · refine x_il rfl rfl ?_
          refine x_reti rfl (Nat.le_of_ble_eq_true rfl) (Nat.le_of_ble_eq_true rfl) rfl ?_
          obtain rfl : k = nh := by omega
          rw [← hR]
          unfold lookF
          subst hu5
          exact opq_s
        refine x_il rfl rfl ?_
        refine x_al rfl rfl ?_
        refine x_get rfl (rw_md hn) (by exact rfl) ?_
        refine x_c rfl ?_
        refine x_c rfl ?_
        refine x_il rfl rfl ?_
        refine x_mulN (x := 7) rfl ?_
        refine x_addN (x := 11425) rfl ?_
        refine x_c rfl ?_
        refine x_addN (y := 1) rfl ?_
        refine x_iaN rfl (by first | exact rw_md hn | exact rw_w hn | exact rw_A hn (by exact rfl) | exact rw_B2 hn | exact rw_B3 hn | assumption) (by omega) ?_
        refine x_il rfl rfl ?_
        have ih := ih c0
        have hst : cn (fun k => decide (f (11425 + 7 * k + 1) = nI p)) (k + 1) = cn (fun k => decide (f (11425 + 7 * k + 1) = nI p)) k + if decide (f (11425 + 7 * k + 1) = nI p) = true then 1 else 0 := rfl
        rw [hst] at ih
        refine x_icne rfl (fun c1 => ?_) (fun c1 => ?_)
        · refine x_c rfl ?_
          rw [if_neg (by rw [decide_eq_true_iff]; exact c1)] at ih
          refine x_addN (y := 0) rfl ?_
          refine x_is (lo' := [_, _, _, _, _]) rfl (Nat.le_of_ble_eq_true rfl) rfl ?_
          refine x_inc1 (lo' := [_, _, _, _, _]) rfl rfl rfl ?_
          refine x_go rfl ?_
          exact ih
        refine x_c rfl ?_
        refine x_go rfl ?_
        rw [if_pos (by rw [decide_eq_true_iff]; exact c1)] at ih
        refine x_addN (y := 1) rfl ?_
        refine x_is (lo' := [_, _, _, _, _]) rfl (Nat.le_of_ble_eq_true rfl) rfl ?_
        refine x_inc1 (lo' := [_, _, _, _, _]) rfl rfl rfl ?_
        refine x_go rfl ?_
        exact ih
      rcases (show u = 0 ∨ u = 1 ∨ u = 2 ∨ u = 3 ∨ u = 4 ∨ u = 5 by omega) with rfl | rfl | rfl | rfl | rfl | rfl
      · refine x_swJ 0 rfl (by decide) rfl ?_
        exact tell (by decide)
      · refine x_swJ 1 rfl (by decide) rfl ?_
        exact tell (by decide)
      · refine x_swJ 2 rfl (by decide) rfl ?_
        exact tell (by decide)
      · refine x_swJ 3 rfl (by decide) rfl ?_
        refine x_c rfl ?_
        refine x_is (lo' := [_, _, _, _, _]) rfl (Nat.le_of_ble_eq_true rfl) rfl ?_
        exact count (Or.inl rfl) 0 (by decide)
      · refine x_swJ 4 rfl (by decide) rfl ?_
        refine x_c rfl ?_
        refine x_is (lo' := [_, _, _, _, _]) rfl (Nat.le_of_ble_eq_true rfl) rfl ?_
        exact count (Or.inr rfl) 0 (by decide)
      · refine x_swJ 5 rfl (by decide) rfl ?_
        refine x_c rfl ?_
        refine x_is (lo' := [_, _, _, _, _]) rfl (Nat.le_of_ble_eq_true rfl) rfl ?_
        exact hits rfl 0 (Nat.zero_le _)
end CALLS
