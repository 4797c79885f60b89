/-! prints of the class: steps, directions, turns; cw_ -/
section CALLS
variable {g : aG} {d : Nat} {w : aW} {F A : Nat → Nat → Int32} {L : Nat → Int64} {f : Nat → Int32}
/-- the cells of the print at q are f's print p -/
def CeA (A : Nat → Nat → Int32) (q : Nat) (f : Nat → Int32) (p : Nat) : Prop := ∀ k, k < 64 → A (q + 1) k = f (5 + 97 * p + k)
/-- print p's cells are directions or nothing -/
def CeR (f : Nat → Int32) (p : Nat) : Prop := ∀ x y, x < 8 → y < 8 → (f (5 + 97 * p + 8 * y + x) = -1 ∨ ∃ v, v < 8 ∧ f (5 + 97 * p + 8 * y + x) = nI v)
theorem stp_n : ∀ a b : Fin 8, (nI b.1 - nI a.1) &&& 7 = stp (nI a.1) (nI b.1) := by decide
theorem adj_n : ∀ a b : Fin 8, (adj (stp (nI a.1) (nI b.1)) = 4 ↔ stp (nI a.1) (nI b.1) = 4) := by decide
theorem nI_m1 {v : Nat} (h : v < 2 ^ 31) : ¬ nI v = -1 := fun e => nI_pos h (by rw [e]; decide)
theorem c_direction {q p x y : Nat} (hq : PrAt q) (hC : CeA A q f p) (hx : x < 8) (hy : y < 8) (hn : w.1 = N0) : Ev g (d + 1) 35 [.ref q, .int (nI x), .int (nI y)] (cW w F A L) (RetQ (f (5 + 97 * p + 8 * y + x)) (cW w F A L)) noX := by
  refine ev_X4_direction ?_ (Nat.le_of_ble_eq_true rfl)
  refine x_lo (lo' := [some (.ref q), some (.int (nI x)), some (.int (nI y))]) rfl ?_
  refine x_il rfl rfl ?_
  refine x_iflt rfl (fun c => absurd c (nI_pos (by omega))) (fun c => ?_)
  refine x_il rfl rfl ?_
  refine x_c rfl ?_
  refine x_icgeN (y := 8) rfl (by omega) (fun c => absurd c (by omega)) (fun c => ?_)
  refine x_il rfl rfl ?_
  refine x_iflt rfl (fun c => absurd c (nI_pos (by omega))) (fun c => ?_)
  refine x_il rfl rfl ?_
  refine x_c rfl ?_
  refine x_icgeN (y := 8) rfl (by omega) (fun c => absurd c (by omega)) (fun c => ?_)
  refine x_al rfl rfl ?_
  refine x_getC rfl hn (by with_reducible exact pr_0 (by first | assumption | exact prA (by omega) | exact prD | exact prB (by assumption) (by omega))) (by exact rfl) ?_
  refine x_c rfl ?_
  refine x_il rfl rfl ?_
  refine x_mulN (x := 8) rfl ?_
  refine x_il rfl rfl ?_
  refine x_addN rfl ?_
  refine x_iaC rfl hn (by with_reducible exact pr_1 (by first | assumption | exact prA (by omega) | exact prD | exact prB (by assumption) (by omega))) (by omega) ?_
  refine x_go rfl ?_
  refine x_reti rfl (Nat.le_of_ble_eq_true rfl) (Nat.le_of_ble_eq_true rfl) rfl ?_
  exact ⟨by rw [hC _ (by omega), ← Nat.add_assoc], rfl⟩
theorem c_step {a b : Nat} (ha : a < 8) (hb : b < 8) (hn : w.1 = N0) : Ev g (d + 1) 34 [.int (nI a), .int (nI b)] w (RetQ (adj (stp (nI a) (nI b))) w) noX := by
  have e := stp_n ⟨a, ha⟩ ⟨b, hb⟩
  have e : (nI b - nI a) &&& 7 = stp (nI a) (nI b) := e
  refine ev_X4_step ?_ (Nat.le_of_ble_eq_true rfl)
  refine x_lo (lo' := [some (.int (nI a)), some (.int (nI b)), none]) rfl ?_
  refine x_il rfl rfl ?_
  refine x_il rfl rfl ?_
  refine x_sub rfl ?_
  refine x_c rfl ?_
  refine x_and rfl ?_
  refine x_is (lo' := [_, _, _]) rfl (Nat.le_of_ble_eq_true rfl) rfl ?_
  refine x_il rfl rfl ?_
  refine x_c rfl ?_
  rw [e]
  refine x_icle rfl (fun c => ?_) (fun c => ?_)
  · refine x_il rfl rfl ?_
    refine x_reti rfl (Nat.le_of_ble_eq_true rfl) (Nat.le_of_ble_eq_true rfl) rfl ?_
    exact ⟨by unfold adj; rw [if_neg (Int32.not_lt.mpr c)], rfl⟩
  refine x_il rfl rfl ?_
  refine x_c rfl ?_
  refine x_sub rfl ?_
  refine x_go rfl ?_
  refine x_reti rfl (Nat.le_of_ble_eq_true rfl) (Nat.le_of_ble_eq_true rfl) rfl ?_
  exact ⟨by unfold adj; rw [if_pos (Int32.not_le.mp c)], rfl⟩
theorem turnV_m {a b c e : Int32} (h : a < 0 ∨ b < 0 ∨ c < 0 ∨ e < 0) : turnV a b c e = -1 := by
  unfold turnV
  rw [if_pos]
  rcases h with h | h | h | h
  · exact Or.inl (Or.inl h)
  · exact Or.inl (Or.inr (Or.inl h))
  · exact Or.inr (Or.inl (Or.inr (Or.inl h)))
  · exact Or.inr (Or.inr (Or.inl (Or.inr (Or.inl h))))
theorem bad_n {a b : Nat} (ha : a < 8) (hb : b < 8) : bad (nI a) (nI b) ↔ adj (stp (nI a) (nI b)) = 4 := by
  have e : adj (stp (nI a) (nI b)) = 4 ↔ stp (nI a) (nI b) = 4 := adj_n ⟨a, ha⟩ ⟨b, hb⟩
  rw [e]
  exact ⟨fun h => h.elim (fun h => absurd h (nI_pos (by omega))) (fun h => h.elim (fun h => absurd h (nI_pos (by omega))) id), fun h => Or.inr (Or.inr h)⟩
theorem turnV_b {a b c e : Nat} (ha : a < 8) (hb : b < 8) (hc : c < 8) (he : e < 8) (h : adj (stp (nI a) (nI b)) = 4 ∨ adj (stp (nI b) (nI c)) = 4 ∨ adj (stp (nI c) (nI e)) = 4 ∨ adj (stp (nI e) (nI a)) = 4) : turnV (nI a) (nI b) (nI c) (nI e) = -1 := by
  unfold turnV
  rw [if_pos]
  rcases h with h | h | h | h
  · exact Or.inl ((bad_n ha hb).mpr h)
  · exact Or.inr (Or.inl ((bad_n hb hc).mpr h))
  · exact Or.inr (Or.inr (Or.inl ((bad_n hc he).mpr h)))
  · exact Or.inr (Or.inr (Or.inr ((bad_n he ha).mpr h)))
theorem turnV_g {a b c e : Nat} (ha : a < 8) (hb : b < 8) (hc : c < 8) (he : e < 8) (h1 : ¬ adj (stp (nI a) (nI b)) = 4) (h2 : ¬ adj (stp (nI b) (nI c)) = 4) (h3 : ¬ adj (stp (nI c) (nI e)) = 4) (h4 : ¬ adj (stp (nI e) (nI a)) = 4) : turnV (nI a) (nI b) (nI c) (nI e) = adj (stp (nI a) (nI b)) + adj (stp (nI b) (nI c)) + adj (stp (nI c) (nI e)) + adj (stp (nI e) (nI a)) := by
  unfold turnV
  rw [if_neg, Int32.zero_add]
  intro h
  rcases h with h | h | h | h
  · exact h1 ((bad_n ha hb).mp h)
  · exact h2 ((bad_n hb hc).mp h)
  · exact h3 ((bad_n hc he).mp h)
  · exact h4 ((bad_n he ha).mp h)
theorem c_turnAround {q p c : Nat} (hq : PrAt q) (hC : CeA A q f p) (hR : CeR f p) (hc : c < 49) (hn : w.1 = N0) : Ev g (d + 2) 33 [.ref q, .int (nI c)] (cW w F A L) (RetQ (turnF f p c) (cW w F A L)) noX := by
  refine ev_X4_turnAround ?_ (Nat.le_of_ble_eq_true rfl)
  refine x_lo (lo' := [some (.ref q), some (.int (nI c)), none, none, none, none, none, none, none, none, none, none]) rfl ?_
  refine x_il rfl rfl ?_
  refine x_c rfl ?_
  refine x_remN (y := 7) rfl (by omega) ?_
  refine x_c rfl ?_
  refine x_addN (y := 1) rfl ?_
  refine x_is (lo' := [_, _, _, _, _, _, _, _, _, _, _, _]) rfl (Nat.le_of_ble_eq_true rfl) rfl ?_
  refine x_il rfl rfl ?_
  refine x_c rfl ?_
  refine x_divN (y := 7) rfl (by omega) ?_
  refine x_c rfl ?_
  refine x_addN (y := 1) rfl ?_
  refine x_is (lo' := [_, _, _, _, _, _, _, _, _, _, _, _]) rfl (Nat.le_of_ble_eq_true rfl) rfl ?_
  refine x_al rfl rfl ?_
  refine x_il rfl rfl ?_
  refine x_c rfl ?_
  first | refine x_subN (y := 1) rfl (by omega) ?_ | refine x_sub rfl ?_
  refine x_il rfl rfl ?_
  refine x_c rfl ?_
  first | refine x_subN (y := 1) rfl (by omega) ?_ | refine x_sub rfl ?_
  refine x_call3 (c_direction hq hC (by omega) (by omega) hn) rfl (Nat.le_of_ble_eq_true rfl) (Or.inl (by first | exact hn | assumption)) (rcv_at (cw_fs (by with_reducible exact pr_0 (by first | assumption | exact prA (by omega) | exact prD | exact prB (by assumption) (by omega))) hn) (by decide) (by decide)) (Nat.le_of_ble_eq_true rfl) (Nat.le_of_ble_eq_true rfl) (fun E w9 hq => hq.elim) ?_
  rintro v9 w9 ⟨rfl, rfl⟩
  refine x_is (lo' := [_, _, _, _, _, _, _, _, _, _, _, _]) rfl (Nat.le_of_ble_eq_true rfl) rfl ?_
  refine x_al rfl rfl ?_
  refine x_il rfl rfl ?_
  refine x_il rfl rfl ?_
  refine x_c rfl ?_
  first | refine x_subN (y := 1) rfl (by omega) ?_ | refine x_sub rfl ?_
  refine x_call3 (c_direction hq hC (by omega) (by omega) hn) rfl (Nat.le_of_ble_eq_true rfl) (Or.inl (by first | exact hn | assumption)) (rcv_at (cw_fs (by with_reducible exact pr_0 (by first | assumption | exact prA (by omega) | exact prD | exact prB (by assumption) (by omega))) hn) (by decide) (by decide)) (Nat.le_of_ble_eq_true rfl) (Nat.le_of_ble_eq_true rfl) (fun E w9 hq => hq.elim) ?_
  rintro v9 w9 ⟨rfl, rfl⟩
  refine x_is (lo' := [_, _, _, _, _, _, _, _, _, _, _, _]) rfl (Nat.le_of_ble_eq_true rfl) rfl ?_
  refine x_al rfl rfl ?_
  refine x_il rfl rfl ?_
  refine x_il rfl rfl ?_
  refine x_call3 (c_direction hq hC (by omega) (by omega) hn) rfl (Nat.le_of_ble_eq_true rfl) (Or.inl (by first | exact hn | assumption)) (rcv_at (cw_fs (by with_reducible exact pr_0 (by first | assumption | exact prA (by omega) | exact prD | exact prB (by assumption) (by omega))) hn) (by decide) (by decide)) (Nat.le_of_ble_eq_true rfl) (Nat.le_of_ble_eq_true rfl) (fun E w9 hq => hq.elim) ?_
  rintro v9 w9 ⟨rfl, rfl⟩
  refine x_is (lo' := [_, _, _, _, _, _, _, _, _, _, _, _]) rfl (Nat.le_of_ble_eq_true rfl) rfl ?_
  refine x_al rfl rfl ?_
  refine x_il rfl rfl ?_
  refine x_c rfl ?_
  first | refine x_subN (y := 1) rfl (by omega) ?_ | refine x_sub rfl ?_
  refine x_il rfl rfl ?_
  refine x_call3 (c_direction hq hC (by omega) (by omega) hn) rfl (Nat.le_of_ble_eq_true rfl) (Or.inl (by first | exact hn | assumption)) (rcv_at (cw_fs (by with_reducible exact pr_0 (by first | assumption | exact prA (by omega) | exact prD | exact prB (by assumption) (by omega))) hn) (by decide) (by decide)) (Nat.le_of_ble_eq_true rfl) (Nat.le_of_ble_eq_true rfl) (fun E w9 hq => hq.elim) ?_
  rintro v9 w9 ⟨rfl, rfl⟩
  refine x_is (lo' := [_, _, _, _, _, _, _, _, _, _, _, _]) rfl (Nat.le_of_ble_eq_true rfl) rfl ?_
  refine x_il rfl rfl ?_
  refine x_c rfl ?_
  have r0 := hR (c % 7 + 1 - 1) (c / 7 + 1 - 1) (by omega) (by omega)
  have r1 := hR (c % 7 + 1) (c / 7 + 1 - 1) (by omega) (by omega)
  have r2 := hR (c % 7 + 1) (c / 7 + 1) (by omega) (by omega)
  have r3 := hR (c % 7 + 1 - 1) (c / 7 + 1) (by omega) (by omega)
  rw [show turnF f p c = turnV (f (5 + 97 * p + 8 * (c / 7 + 1 - 1) + (c % 7 + 1 - 1))) (f (5 + 97 * p + 8 * (c / 7 + 1 - 1) + (c % 7 + 1))) (f (5 + 97 * p + 8 * (c / 7 + 1) + (c % 7 + 1))) (f (5 + 97 * p + 8 * (c / 7 + 1) + (c % 7 + 1 - 1))) from rfl]
  generalize f (5 + 97 * p + 8 * (c / 7 + 1 - 1) + (c % 7 + 1 - 1)) = v0 at *
  generalize f (5 + 97 * p + 8 * (c / 7 + 1 - 1) + (c % 7 + 1)) = v1 at *
  generalize f (5 + 97 * p + 8 * (c / 7 + 1) + (c % 7 + 1)) = v2 at *
  generalize f (5 + 97 * p + 8 * (c / 7 + 1) + (c % 7 + 1 - 1)) = v3 at *
  rcases r0 with rfl | ⟨v0, h0, rfl⟩
  · refine x_iceq rfl (fun e => ?_) (fun e => absurd rfl e)
    refine x_c rfl ?_
    refine x_reti rfl (Nat.le_of_ble_eq_true rfl) (Nat.le_of_ble_eq_true rfl) rfl ?_
    exact ⟨by rw [turnV_m (Or.inl (by decide))], rfl⟩
  refine x_iceq rfl (fun e => absurd e (nI_m1 (by omega))) (fun e => ?_)
  refine x_il rfl rfl ?_
  refine x_c rfl ?_
  rcases r1 with rfl | ⟨v1, h1, rfl⟩
  · refine x_iceq rfl (fun e => ?_) (fun e => absurd rfl e)
    refine x_c rfl ?_
    refine x_reti rfl (Nat.le_of_ble_eq_true rfl) (Nat.le_of_ble_eq_true rfl) rfl ?_
    exact ⟨by rw [turnV_m (Or.inr (Or.inl (by decide)))], rfl⟩
  refine x_iceq rfl (fun e => absurd e (nI_m1 (by omega))) (fun e => ?_)
  refine x_il rfl rfl ?_
  refine x_c rfl ?_
  rcases r2 with rfl | ⟨v2, h2, rfl⟩
  · refine x_iceq rfl (fun e => ?_) (fun e => absurd rfl e)
    refine x_c rfl ?_
    refine x_reti rfl (Nat.le_of_ble_eq_true rfl) (Nat.le_of_ble_eq_true rfl) rfl ?_
    exact ⟨by rw [turnV_m (Or.inr (Or.inr (Or.inl (by decide))))], rfl⟩
  refine x_iceq rfl (fun e => absurd e (nI_m1 (by omega))) (fun e => ?_)
  refine x_il rfl rfl ?_
  refine x_c rfl ?_
  rcases r3 with rfl | ⟨v3, h3, rfl⟩
  · refine x_icne rfl (fun e => absurd rfl e) (fun e => ?_)
    refine x_c rfl ?_
    refine x_reti rfl (Nat.le_of_ble_eq_true rfl) (Nat.le_of_ble_eq_true rfl) rfl ?_
    exact ⟨by rw [turnV_m (Or.inr (Or.inr (Or.inr (by decide))))], rfl⟩
  refine x_icne rfl (fun e => ?_) (fun e => absurd e (nI_m1 (by omega)))
  refine x_il rfl rfl ?_
  refine x_il rfl rfl ?_
  refine x_call2 (c_step h0 h1 hn) rfl (Nat.le_of_ble_eq_true rfl) (Or.inl (by first | exact hn | assumption)) trivial (Nat.le_of_ble_eq_true rfl) (Nat.le_of_ble_eq_true rfl) (fun E w9 hq => hq.elim) ?_
  rintro v9 w9 ⟨rfl, rfl⟩
  refine x_is (lo' := [_, _, _, _, _, _, _, _, _, _, _, _]) rfl (Nat.le_of_ble_eq_true rfl) rfl ?_
  refine x_il rfl rfl ?_
  refine x_il rfl rfl ?_
  refine x_call2 (c_step h1 h2 hn) rfl (Nat.le_of_ble_eq_true rfl) (Or.inl (by first | exact hn | assumption)) trivial (Nat.le_of_ble_eq_true rfl) (Nat.le_of_ble_eq_true rfl) (fun E w9 hq => hq.elim) ?_
  rintro v9 w9 ⟨rfl, rfl⟩
  refine x_is (lo' := [_, _, _, _, _, _, _, _, _, _, _, _]) rfl (Nat.le_of_ble_eq_true rfl) rfl ?_
  refine x_il rfl rfl ?_
  refine x_il rfl rfl ?_
  refine x_call2 (c_step h2 h3 hn) rfl (Nat.le_of_ble_eq_true rfl) (Or.inl (by first | exact hn | assumption)) trivial (Nat.le_of_ble_eq_true rfl) (Nat.le_of_ble_eq_true rfl) (fun E w9 hq => hq.elim) ?_
  rintro v9 w9 ⟨rfl, rfl⟩
  refine x_is (lo' := [_, _, _, _, _, _, _, _, _, _, _, _]) rfl (Nat.le_of_ble_eq_true rfl) rfl ?_
  refine x_il rfl rfl ?_
  refine x_il rfl rfl ?_
  refine x_call2 (c_step h3 h0 hn) rfl (Nat.le_of_ble_eq_true rfl) (Or.inl (by first | exact hn | assumption)) trivial (Nat.le_of_ble_eq_true rfl) (Nat.le_of_ble_eq_true rfl) (fun E w9 hq => hq.elim) ?_
  rintro v9 w9 ⟨rfl, rfl⟩
  refine x_is (lo' := [_, _, _, _, _, _, _, _, _, _, _, _]) rfl (Nat.le_of_ble_eq_true rfl) rfl ?_
  refine x_il rfl rfl ?_
  refine x_c rfl ?_
  refine x_iceq rfl (fun e1 => ?_) (fun e1 => ?_)
  · refine x_c rfl ?_
    refine x_reti rfl (Nat.le_of_ble_eq_true rfl) (Nat.le_of_ble_eq_true rfl) rfl ?_
    exact ⟨by rw [turnV_b h0 h1 h2 h3 (Or.inl e1)], rfl⟩
  refine x_il rfl rfl ?_
  refine x_c rfl ?_
  refine x_iceq rfl (fun e2 => ?_) (fun e2 => ?_)
  · refine x_c rfl ?_
    refine x_reti rfl (Nat.le_of_ble_eq_true rfl) (Nat.le_of_ble_eq_true rfl) rfl ?_
    exact ⟨by rw [turnV_b h0 h1 h2 h3 (Or.inr (Or.inl e2))], rfl⟩
  refine x_il rfl rfl ?_
  refine x_c rfl ?_
  refine x_iceq rfl (fun e3 => ?_) (fun e3 => ?_)
  · refine x_c rfl ?_
    refine x_reti rfl (Nat.le_of_ble_eq_true rfl) (Nat.le_of_ble_eq_true rfl) rfl ?_
    exact ⟨by rw [turnV_b h0 h1 h2 h3 (Or.inr (Or.inr (Or.inl e3)))], rfl⟩
  refine x_il rfl rfl ?_
  refine x_c rfl ?_
  refine x_icne rfl (fun e4 => ?_) (fun e4 => ?_)
  rotate_left
  · refine x_c rfl ?_
    refine x_reti rfl (Nat.le_of_ble_eq_true rfl) (Nat.le_of_ble_eq_true rfl) rfl ?_
    exact ⟨by rw [turnV_b h0 h1 h2 h3 (Or.inr (Or.inr (Or.inr e4)))], rfl⟩
  refine x_il rfl rfl ?_
  refine x_il rfl rfl ?_
  refine x_add rfl ?_
  refine x_il rfl rfl ?_
  refine x_add rfl ?_
  refine x_il rfl rfl ?_
  refine x_add rfl ?_
  refine x_reti rfl (Nat.le_of_ble_eq_true rfl) (Nat.le_of_ble_eq_true rfl) rfl ?_
  exact ⟨by rw [turnV_g h0 h1 h2 h3 e1 e2 e3 e4], rfl⟩
theorem c_cornerOf {q p : Nat} {n t : Int32} (hq : PrAt q) (hC : CeA A q f p) (hR : CeR f p) (hn : w.1 = N0) : Ev g (d + 3) 36 [.ref q, .int n, .int t] (cW w F A L) (RetQ (sinF (turnF f p) t n) (cW w F A L)) noX := by
  refine ev_X4_cornerOf ?_ (Nat.le_of_ble_eq_true rfl)
  refine x_lo (lo' := [some (.ref q), some (.int n), some (.int t), none, none]) rfl ?_
  refine x_c rfl ?_
  refine x_is (lo' := [_, _, _, _, _]) rfl (Nat.le_of_ble_eq_true rfl) rfl ?_
  refine x_c rfl ?_
  refine x_is (lo' := [_, _, _, _, _]) rfl (Nat.le_of_ble_eq_true rfl) rfl ?_
  unfold sinF
  have loop : ∀ c, c ≤ 49 → ∀ many : Nat, many ≤ c → EX g mbOf (Ev g (d + 2)) (infoOf 36) k_X4_cornerOf (RetQ (it 49 (fun c (many : Nat) => if turnF f p c = t then (if nI many = n then .inr (nI c) else .inl (many + 1)) else .inl many) (fun _ => -1) c many) (cW w F A L)) noX w.1 (cW w F A L) 0 0 4 [some (.ref q), some (.int n), some (.int t), some (.int (nI many)), some (.int (nI c))] [] := by
    refine downN 49 fun c hc ih => ?_
    intro many hm
    refine x_il rfl rfl ?_
    refine x_c rfl ?_
    refine x_icgeN (y := 49) rfl (by omega) (fun c1 => ?_) (fun c1 => ?_)
    · refine x_c rfl ?_
      refine x_reti rfl (Nat.le_of_ble_eq_true rfl) (Nat.le_of_ble_eq_true rfl) rfl ?_
      exact ⟨by rw [it_end c1], rfl⟩
    refine x_al rfl rfl ?_
    refine x_il rfl rfl ?_
    refine x_call2 (c_turnAround hq hC hR c1 hn) rfl (Nat.le_of_ble_eq_true rfl) (Or.inl (by first | exact hn | assumption)) (rcv_at (cw_fs (by with_reducible exact pr_0 (by first | assumption | exact prA (by omega) | exact prD | exact prB (by assumption) (by omega))) hn) (by decide) (by decide)) (Nat.le_of_ble_eq_true rfl) (Nat.le_of_ble_eq_true rfl) (fun E w9 hq => hq.elim) ?_
    rintro v9 w9 ⟨rfl, rfl⟩
    refine x_il rfl rfl ?_
    refine x_iceq rfl (fun c2 => ?_) (fun c2 => ?_)
    rotate_left
    · refine x_go rfl ?_
      refine x_inc1 (lo' := [_, _, _, _, _]) rfl rfl rfl ?_
      refine x_go rfl ?_
      have := ih c1 many (by omega)
      rw [← it_go c1 (if_neg c2)] at this
      exact this
    refine x_il rfl rfl ?_
    refine x_il rfl rfl ?_
    refine x_icne rfl (fun c3 => ?_) (fun c3 => ?_)
    rotate_left
    · refine x_il rfl rfl ?_
      refine x_reti rfl (Nat.le_of_ble_eq_true rfl) (Nat.le_of_ble_eq_true rfl) rfl ?_
      exact ⟨by rw [it_ret c1 (r := nI c)]; rw [if_pos c2, if_pos c3], rfl⟩
    refine x_inc1 (lo' := [_, _, _, _, _]) rfl rfl rfl ?_
    refine x_inc1 (lo' := [_, _, _, _, _]) rfl rfl rfl ?_
    refine x_go rfl ?_
    have := ih c1 (many + 1) (by omega)
    rw [← it_go c1 (s := many) (by rw [if_pos c2, if_neg c3])] at this
    exact this
  exact loop 0 (by decide) 0 (Nat.le_refl _)
end CALLS
