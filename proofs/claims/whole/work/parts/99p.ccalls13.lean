/-! drawers and like; cw_ -/
section CALLS
variable {g : aG} {d : Nat} {w : aW} {F A : Nat → Nat → Int32} {L : Nat → Int64} {f : Nat → Int32} {np nm nc nt ns nh v : Nat}
theorem nI_cn {a b : Nat} (ha : a < 2 ^ 31) (hb : b < 2 ^ 31) (h : nI a = nI b) : a = b := by
  have h3 := congrArg cN h
  rw [show cN (nI a) = a from nI_clamp (by omega), show cN (nI b) = b from nI_clamp (by omega)] at h3
  exact h3
/-- how many unlike readings there are, of the class and of the formula -/
theorem drw_eq {c n : Nat} {e : Nat → Nat} {row : Nat → Int64} (hI : IV f np nm nc nt ns nh) (hc : c < nc) (h : EN n e (fun x => ∃ j, j < nD f c ∧ x = vD f c j)) : n = (readsF f c row).1 := by
  refine EN.len JL (fun x y hx hy => ?_) h (readsF_EN (row := row) hI hc) (fun y => ⟨?_, ?_⟩)
  · obtain ⟨j, h1, rfl⟩ := hx
    obtain ⟨j', h2, rfl⟩ := hy
    exact JL_inj (vD_lt hI hc h1) (vD_lt hI hc h2)
  · rintro ⟨j, h1, rfl⟩
    exact ⟨_, ⟨j, h1, rfl⟩, rfl⟩
  · rintro ⟨x, ⟨j, h1, rfl⟩, rfl⟩
    exact ⟨j, h1, rfl⟩
theorem c_drawers {x : Int32} {row : Nat → Int64} (hK : KI F A f np nm v) (hR : RS F A f 6 np nm nc nt ns nh) (hI : IV f np nm nc nt ns nh) (hn : w.1 = N0) : Ev g (d + 7) 128 [.ref 0, .int x] (cW w F A L) (caQ w F A (f) v (if okN x nc = true then 0 else 1) (some (.int (if okN x nc = true then nI (readsF f (cN x) row).1 else 0)))) (caX (cW w F A L) (if okN x nc = true then 0 else 1) 2 0) := by
  have h60 := hI.p60
  have h20 := hI.m20
  have h16 := hI.c16
  have h10 := hI.t10
  have h200 := hI.s200
  have hh200 := hI.h200
  refine ev_X10_drawers ?_ (Nat.le_of_ble_eq_true rfl)
  refine x_lo (lo' := [some (.ref 0), some (.int x), none, none, none]) rfl ?_
  refine x_al rfl rfl ?_
  refine x_il rfl rfl ?_
  refine x_call2 (c_needCard hR.1.2.2.2.2.2.2.1 (by omega) hn) rfl (Nat.le_of_ble_eq_true rfl) (Or.inl (by first | exact hn | assumption)) (rcv_at (cw_fs (by with_reducible exact sp_0) hn) (by decide) (by decide)) (Nat.le_of_ble_eq_true rfl) (Nat.le_of_ble_eq_true rfl) (fun E w9 hq => ⟨rfl, by obtain ⟨h9, rfl, rfl⟩ := hq; exact ⟨rfl, Or.inl ⟨if_neg (fun h8 => fne h9 h8), rfl⟩⟩⟩) ?_
  rintro v9 w9 ⟨h1, rfl, rfl⟩
  refine x_al rfl rfl ?_
  refine x_getC rfl hn (by with_reducible exact sp_0) (by exact rfl) ?_
  refine x_il rfl rfl ?_
  refine x_al rfl rfl ?_
  refine x_getC rfl hn (by with_reducible exact sp_0) (by exact rfl) ?_
  obtain ⟨c, hc, rfl, ec⟩ := ok_of h1 (by omega)
  rw [if_pos h1, if_pos h1, ec]
  have m16 := (sq_ok hI hc).1
  have ms := (sq_ok hI hc).2.2.1
  refine x_call3 (c_fillReadings (q := 1420) (Or.inl rfl) hR hI hc hn) rfl (Nat.le_of_ble_eq_true rfl) (Or.inl (by first | exact hn | assumption)) (rcv_at (cw_fs (by with_reducible exact (by first | exact sp_6 | exact st_0 (by assumption))) hn) (by decide) (by decide)) (Nat.le_of_ble_eq_true rfl) (Nat.le_of_ble_eq_true rfl) (fun E w9 hq => hq.elim) ?_
  rintro v9 w9 ⟨rfl, r, rfl, hr⟩
  refine x_is (lo' := [_, _, _, _, _]) rfl (Nat.le_of_ble_eq_true rfl) rfl ?_
  refine x_c rfl ?_
  refine x_is (lo' := [_, _, _, _, _]) rfl (Nat.le_of_ble_eq_true rfl) rfl ?_
  refine x_c rfl ?_
  refine x_is (lo' := [_, _, _, _, _]) rfl (Nat.le_of_ble_eq_true rfl) rfl ?_
  have loop : ∀ i, i ≤ nD f c → ∀ n e, EN n e (fun x => ∃ j, j < i ∧ x = vD f c j) → ∀ uc us : Nat, uc = UC → us = US → EX g mbOf (Ev g (d + 6)) (infoOf 128) k_X10_drawers (caQ w F A f v 0 (some (.int (nI (readsF f c row).1)))) (caX (cW w F A L) 0 2 0) w.1 (cW w F (udA A 1420 r) L) uc us 14 [some (.ref 0), some (.int (nI c)), some (.int (nI (nD f c))), some (.int (nI n)), some (.int (nI i))] [] := by
    refine downN (nD f c) fun i hi ih => ?_
    rintro n e he _ _ rfl rfl
    refine x_il rfl rfl ?_
    refine x_il rfl rfl ?_
    refine x_icgeN rfl (by omega) (fun c0 => ?_) (fun c0 => ?_)
    · refine x_il rfl rfl ?_
      refine x_reti rfl (Nat.le_of_ble_eq_true rfl) (Nat.le_of_ble_eq_true rfl) rfl ?_
      obtain rfl : i = nD f c := by omega
      refine ca_sx hR hI (fun q hq => ⟨rfl, udA_ne (by omega)⟩) (hK.keepC rfl (udA_ne (by omega))) ?_ rfl
      rw [drw_eq (row := row) hI hc he]
    refine x_al rfl rfl ?_
    refine x_getC rfl hn (by with_reducible exact sp_0) (by exact rfl) ?_
    refine x_il rfl rfl ?_
    refine x_al rfl rfl ?_
    refine x_getC rfl hn (by with_reducible exact sp_0) (by exact rfl) ?_
    refine x_il rfl rfl ?_
    refine x_iaC rfl hn (by with_reducible exact sp_1420) (by omega) ?_
    have ih := ih c0
    rw [show udA A 1420 r 1420 i = nI (vD f c i) by rw [udA_t]; exact hr i c0]
    refine x_call3 (c_hasIn (m := 16) rfl (by decide) (by omega) hn) rfl (Nat.le_of_ble_eq_true rfl) (Or.inl (by first | exact hn | assumption)) trivial (Nat.le_of_ble_eq_true rfl) (Nat.le_of_ble_eq_true rfl) (fun E w9 hq => hq.elim) ?_
    rintro v9 w9 ⟨hh, rfl⟩
    sorry
  sorry
end CALLS
