/-! sheets of the class: turned, copied; cw_ -/
section CALLS
variable {g : aG} {d : Nat} {w : aW} {F A : Nat → Nat → Int32} {L : Nat → Int64}
theorem c_turnedX {t : Nat} {x y : Int32} (ht : t < 4) : Ev g (d + 1) 64 [.int x, .int y, .int (nI t)] w (RetQ (tX (nI t) x y) w) noX := by
  refine ev_X6_turnedX ?_ (Nat.le_of_ble_eq_true rfl)
  refine x_lo (lo' := [some (.int x), some (.int y), some (.int (nI t))]) rfl ?_
  refine x_il rfl rfl ?_
  match t, ht with
  | 0, _ =>
    refine x_swJ 0 rfl (by decide) rfl ?_
    refine x_il rfl rfl ?_
    refine x_reti rfl (Nat.le_of_ble_eq_true rfl) (Nat.le_of_ble_eq_true rfl) rfl ?_
    exact ⟨rfl, rfl⟩
  | 1, _ =>
    refine x_swJ 1 rfl (by decide) rfl ?_
    refine x_c rfl ?_
    refine x_il rfl rfl ?_
    refine x_sub rfl ?_
    refine x_reti rfl (Nat.le_of_ble_eq_true rfl) (Nat.le_of_ble_eq_true rfl) rfl ?_
    exact ⟨rfl, rfl⟩
  | 2, _ =>
    refine x_swJ 2 rfl (by decide) rfl ?_
    refine x_c rfl ?_
    refine x_il rfl rfl ?_
    refine x_sub rfl ?_
    refine x_reti rfl (Nat.le_of_ble_eq_true rfl) (Nat.le_of_ble_eq_true rfl) rfl ?_
    exact ⟨rfl, rfl⟩
  | 3, _ =>
    refine x_swD rfl (by decide) ?_
    refine x_il rfl rfl ?_
    refine x_reti rfl (Nat.le_of_ble_eq_true rfl) (Nat.le_of_ble_eq_true rfl) rfl ?_
    exact ⟨rfl, rfl⟩
theorem c_turnedY {t : Nat} {x y : Int32} (ht : t < 4) : Ev g (d + 1) 65 [.int x, .int y, .int (nI t)] w (RetQ (tY (nI t) x y) w) noX := by
  refine ev_X6_turnedY ?_ (Nat.le_of_ble_eq_true rfl)
  refine x_lo (lo' := [some (.int x), some (.int y), some (.int (nI t))]) rfl ?_
  refine x_il rfl rfl ?_
  match t, ht with
  | 0, _ =>
    refine x_swJ 0 rfl (by decide) rfl ?_
    refine x_il rfl rfl ?_
    refine x_reti rfl (Nat.le_of_ble_eq_true rfl) (Nat.le_of_ble_eq_true rfl) rfl ?_
    exact ⟨rfl, rfl⟩
  | 1, _ =>
    refine x_swJ 1 rfl (by decide) rfl ?_
    refine x_il rfl rfl ?_
    refine x_reti rfl (Nat.le_of_ble_eq_true rfl) (Nat.le_of_ble_eq_true rfl) rfl ?_
    exact ⟨rfl, rfl⟩
  | 2, _ =>
    refine x_swJ 2 rfl (by decide) rfl ?_
    refine x_c rfl ?_
    refine x_il rfl rfl ?_
    refine x_sub rfl ?_
    refine x_reti rfl (Nat.le_of_ble_eq_true rfl) (Nat.le_of_ble_eq_true rfl) rfl ?_
    exact ⟨rfl, rfl⟩
  | 3, _ =>
    refine x_swD rfl (by decide) ?_
    refine x_c rfl ?_
    refine x_il rfl rfl ?_
    refine x_sub rfl ?_
    refine x_reti rfl (Nat.le_of_ble_eq_true rfl) (Nat.le_of_ble_eq_true rfl) rfl ?_
    exact ⟨rfl, rfl⟩
theorem shtA_1 {q n : Nat} {a b c e : Int32} : shtA A q n a b c e (q + 1) = upd (A (q + 1)) n a := by
  unfold shtA udA
  rw [if_neg (by omega), if_neg (by omega), if_neg (by omega), if_pos rfl]
theorem shtA_2 {q n : Nat} {a b c e : Int32} : shtA A q n a b c e (q + 2) = upd (A (q + 2)) n b := by
  unfold shtA udA
  rw [if_neg (by omega), if_neg (by omega), if_pos rfl]
theorem shtA_3 {q n : Nat} {a b c e : Int32} : shtA A q n a b c e (q + 3) = upd (A (q + 3)) n c := by
  unfold shtA udA
  rw [if_neg (by omega), if_pos rfl]
theorem shtA_4 {q n : Nat} {a b c e : Int32} : shtA A q n a b c e (q + 4) = upd (A (q + 4)) n e := by
  unfold shtA udA
  rw [if_pos rfl]
theorem shtA_o {q n r : Nat} {a b c e : Int32} (h : r ≤ q ∨ q + 4 < r) : shtA A q n a b c e r = A r := by
  unfold shtA udA
  rw [if_neg (by omega), if_neg (by omega), if_neg (by omega), if_neg (by omega)]
theorem upd_at {f : Nat → Int32} {k : Nat} {v : Int32} : upd f k v k = v := by unfold upd; rw [if_pos rfl]
theorem upd_ne {f : Nat → Int32} {k j : Nat} {v : Int32} (h : j ≠ k) : upd f k v j = f j := by unfold upd; rw [if_neg h]
/-- q holds the first i points of p, turned -/
def TuI (F A : Nat → Nat → Int32) (h : Nat → Int32) (Ai : Nat → Nat → Int32) (q p i t : Nat) : Prop :=
  h 4 = nI i ∧ (h 5 = minI (tX (nI t) (F p 5) (F p 6)) (tX (nI t) (F p 7) (F p 8)) ∧ h 6 = minI (tY (nI t) (F p 5) (F p 6)) (tY (nI t) (F p 7) (F p 8)) ∧ h 7 = maxI (tX (nI t) (F p 5) (F p 6)) (tX (nI t) (F p 7) (F p 8)) ∧ h 8 = maxI (tY (nI t) (F p 5) (F p 6)) (tY (nI t) (F p 7) (F p 8)))
  ∧ (∀ j, j < i → Ai (q + 1) j = tX (nI t) (A (p + 1) j) (A (p + 2) j) ∧ Ai (q + 2) j = tY (nI t) (A (p + 1) j) (A (p + 2) j) ∧ Ai (q + 3) j = A (p + 3) j ∧ Ai (q + 4) j = (A (p + 4) j + nI (4 * t)) &&& 15)
  ∧ ∀ r, (r ≤ q ∨ q + 4 < r) → Ai r = A r
theorem TuI.next {h : Nat → Int32} {Ai : Nat → Nat → Int32} {q p i t : Nat} (hI : TuI F A h Ai q p i t) (hd : p + 4 < q ∨ q + 4 < p) : TuI F A (upd h 4 (nI (i + 1))) (shtA Ai q i (tX (nI t) (Ai (p + 1) i) (Ai (p + 2) i)) (tY (nI t) (Ai (p + 1) i) (Ai (p + 2) i)) (Ai (p + 3) i) ((Ai (p + 4) i + nI (4 * t)) &&& 15)) q p (i + 1) t := by
  obtain ⟨a4, ⟨a5, a6, a7, a8⟩, aj, ao⟩ := hI
  refine ⟨upd_at, ⟨by rw [upd_ne (by omega)]; exact a5, by rw [upd_ne (by omega)]; exact a6, by rw [upd_ne (by omega)]; exact a7, by rw [upd_ne (by omega)]; exact a8⟩, fun j hj => ?_, fun r hr => by rw [shtA_o hr]; exact ao r hr⟩
  rw [shtA_1, shtA_2, shtA_3, shtA_4]
  by_cases e : j = i
  · subst e
    rw [upd_at, upd_at, upd_at, upd_at, ao (p + 1) (by omega), ao (p + 2) (by omega), ao (p + 3) (by omega), ao (p + 4) (by omega)]
    exact ⟨rfl, rfl, rfl, rfl⟩
  · rw [upd_ne e, upd_ne e, upd_ne e, upd_ne e]
    exact aj j (by omega)
def tuQ (w : aW) (F A : Nat → Nat → Int32) (L : Nat → Int64) (q p n t : Nat) : Option Value → aW → Prop := fun v w' => v = none ∧ ∃ h A', w' = cW w (udA F q h) A' L ∧ TuI F A h A' q p n t
theorem c_turnFrom {q p n t : Nat} (hq : ShAt q) (hp : ShAt p) (hd : p + 4 < q ∨ q + 4 < p) (ht : t < 4) (h4 : F p 4 = nI n) (hl : n ≤ 8) (hn : w.1 = N0) : Ev g (d + 2) 63 [.ref q, .ref p, .int (nI t)] (cW w F A L) (tuQ w F A L q p n t) noX := by
  have loop : ∀ i, i ≤ n → ∀ (h : Nat → Int32) (Ai : Nat → Nat → Int32) (l3 l4 l5 l6 : Int32), TuI F A h Ai q p i t → EX g mbOf (Ev g (d + 1)) (infoOf 63) k_X6_turnFrom (tuQ w F A L q p n t) noX w.1 (cW w (udA F q h) Ai L) 0 0 44 [some (.ref q), some (.ref p), some (.int (nI t)), some (.int l3), some (.int l4), some (.int l5), some (.int l6), some (.int (nI i))] [] := by
    refine downN n fun i hi ih => ?_
    intro h Ai l3 l4 l5 l6 hI
    refine x_il rfl rfl ?_
    refine x_al rfl rfl ?_
    refine x_getC rfl hn (by with_reducible exact sh_0 (by first | assumption | exact sh_turned | exact pr_sh (by first | assumption | exact prA (by omega) | exact prD | exact prB (by assumption) (by omega)) | exact ma_sh (by first | assumption | exact maA (by omega) | exact maB (by assumption) (by omega)))) (by exact rfl) ?_
    rw [udA_ne (show p ≠ q by omega), h4]
    refine x_icgeN rfl (by omega) (fun c0 => ?_) (fun c0 => ?_)
    · refine x_retv rfl (Nat.le_of_ble_eq_true rfl) (Nat.le_of_ble_eq_true rfl) rfl ?_
      obtain rfl : i = n := by omega
      exact ⟨rfl, h, Ai, rfl, hI⟩
    refine x_al rfl rfl ?_
    refine x_al rfl rfl ?_
    refine x_getC rfl hn (by with_reducible exact sh_0 (by first | assumption | exact sh_turned | exact pr_sh (by first | assumption | exact prA (by omega) | exact prD | exact prB (by assumption) (by omega)) | exact ma_sh (by first | assumption | exact maA (by omega) | exact maB (by assumption) (by omega)))) (by exact rfl) ?_
    refine x_il rfl rfl ?_
    refine x_iaC rfl hn (by with_reducible exact sh_1 (by first | assumption | exact sh_turned | exact pr_sh (by first | assumption | exact prA (by omega) | exact prD | exact prB (by assumption) (by omega)) | exact ma_sh (by first | assumption | exact maA (by omega) | exact maB (by assumption) (by omega)))) (by omega) ?_
    refine x_al rfl rfl ?_
    refine x_getC rfl hn (by with_reducible exact sh_0 (by first | assumption | exact sh_turned | exact pr_sh (by first | assumption | exact prA (by omega) | exact prD | exact prB (by assumption) (by omega)) | exact ma_sh (by first | assumption | exact maA (by omega) | exact maB (by assumption) (by omega)))) (by exact rfl) ?_
    refine x_il rfl rfl ?_
    refine x_iaC rfl hn (by with_reducible exact sh_2 (by first | assumption | exact sh_turned | exact pr_sh (by first | assumption | exact prA (by omega) | exact prD | exact prB (by assumption) (by omega)) | exact ma_sh (by first | assumption | exact maA (by omega) | exact maB (by assumption) (by omega)))) (by omega) ?_
    refine x_il rfl rfl ?_
    refine x_call3 (c_turnedX ht) rfl (Nat.le_of_ble_eq_true rfl) (Or.inl (by first | exact hn | assumption)) trivial (Nat.le_of_ble_eq_true rfl) (Nat.le_of_ble_eq_true rfl) (fun E w9 hq => hq.elim) ?_
    rintro v9 w9 ⟨rfl, rfl⟩
    refine x_al rfl rfl ?_
    refine x_getC rfl hn (by with_reducible exact sh_0 (by first | assumption | exact sh_turned | exact pr_sh (by first | assumption | exact prA (by omega) | exact prD | exact prB (by assumption) (by omega)) | exact ma_sh (by first | assumption | exact maA (by omega) | exact maB (by assumption) (by omega)))) (by exact rfl) ?_
    refine x_il rfl rfl ?_
    refine x_iaC rfl hn (by with_reducible exact sh_1 (by first | assumption | exact sh_turned | exact pr_sh (by first | assumption | exact prA (by omega) | exact prD | exact prB (by assumption) (by omega)) | exact ma_sh (by first | assumption | exact maA (by omega) | exact maB (by assumption) (by omega)))) (by omega) ?_
    refine x_al rfl rfl ?_
    refine x_getC rfl hn (by with_reducible exact sh_0 (by first | assumption | exact sh_turned | exact pr_sh (by first | assumption | exact prA (by omega) | exact prD | exact prB (by assumption) (by omega)) | exact ma_sh (by first | assumption | exact maA (by omega) | exact maB (by assumption) (by omega)))) (by exact rfl) ?_
    refine x_il rfl rfl ?_
    refine x_iaC rfl hn (by with_reducible exact sh_2 (by first | assumption | exact sh_turned | exact pr_sh (by first | assumption | exact prA (by omega) | exact prD | exact prB (by assumption) (by omega)) | exact ma_sh (by first | assumption | exact maA (by omega) | exact maB (by assumption) (by omega)))) (by omega) ?_
    refine x_il rfl rfl ?_
    refine x_call3 (c_turnedY ht) rfl (Nat.le_of_ble_eq_true rfl) (Or.inl (by first | exact hn | assumption)) trivial (Nat.le_of_ble_eq_true rfl) (Nat.le_of_ble_eq_true rfl) (fun E w9 hq => hq.elim) ?_
    rintro v9 w9 ⟨rfl, rfl⟩
    refine x_al rfl rfl ?_
    refine x_getC rfl hn (by with_reducible exact sh_0 (by first | assumption | exact sh_turned | exact pr_sh (by first | assumption | exact prA (by omega) | exact prD | exact prB (by assumption) (by omega)) | exact ma_sh (by first | assumption | exact maA (by omega) | exact maB (by assumption) (by omega)))) (by exact rfl) ?_
    refine x_il rfl rfl ?_
    refine x_iaC rfl hn (by with_reducible exact sh_3 (by first | assumption | exact sh_turned | exact pr_sh (by first | assumption | exact prA (by omega) | exact prD | exact prB (by assumption) (by omega)) | exact ma_sh (by first | assumption | exact maA (by omega) | exact maB (by assumption) (by omega)))) (by omega) ?_
    refine x_al rfl rfl ?_
    refine x_getC rfl hn (by with_reducible exact sh_0 (by first | assumption | exact sh_turned | exact pr_sh (by first | assumption | exact prA (by omega) | exact prD | exact prB (by assumption) (by omega)) | exact ma_sh (by first | assumption | exact maA (by omega) | exact maB (by assumption) (by omega)))) (by exact rfl) ?_
    refine x_il rfl rfl ?_
    refine x_iaC rfl hn (by with_reducible exact sh_4 (by first | assumption | exact sh_turned | exact pr_sh (by first | assumption | exact prA (by omega) | exact prD | exact prB (by assumption) (by omega)) | exact ma_sh (by first | assumption | exact maA (by omega) | exact maB (by assumption) (by omega)))) (by omega) ?_
    refine x_c rfl ?_
    refine x_il rfl rfl ?_
    refine x_mulN (x := 4) rfl ?_
    refine x_add rfl ?_
    refine x_c rfl ?_
    refine x_and rfl ?_
    refine x_call5 (c_add hq (by rw [udA_t]; exact hI.1) (by omega) hn) rfl (Nat.le_of_ble_eq_true rfl) (Or.inl (by first | exact hn | assumption)) (rcv_at (cw_fs (by with_reducible exact sh_0 (by first | assumption | exact sh_turned | exact pr_sh (by first | assumption | exact prA (by omega) | exact prD | exact prB (by assumption) (by omega)) | exact ma_sh (by first | assumption | exact maA (by omega) | exact maB (by assumption) (by omega)))) hn) (by decide) (by decide)) (Nat.le_of_ble_eq_true rfl) (Nat.le_of_ble_eq_true rfl) (fun E w9 hq => hq.elim) ?_
    rintro v9 w9 ⟨rfl, rfl⟩
    refine x_pop rfl rfl ?_
    refine x_inc1 (lo' := [_, _, _, _, _, _, _, _]) rfl rfl rfl ?_
    refine x_go rfl ?_
    rw [show udA (udA F q h) q (upd (udA F q h q) 4 (nI (i + 1))) = udA F q (upd h 4 (nI (i + 1))) by rw [udA_t, udA_udA]]
    exact ih c0 _ _ _ _ _ _ (hI.next hd)
  refine ev_X6_turnFrom ?_ (Nat.le_of_ble_eq_true rfl)
  refine x_lo (lo' := [some (.ref q), some (.ref p), some (.int (nI t)), none, none, none, none, none]) rfl ?_
  refine x_al rfl rfl ?_
  refine x_getC rfl hn (by with_reducible exact sh_0 (by first | assumption | exact sh_turned | exact pr_sh (by first | assumption | exact prA (by omega) | exact prD | exact prB (by assumption) (by omega)) | exact ma_sh (by first | assumption | exact maA (by omega) | exact maB (by assumption) (by omega)))) (by exact rfl) ?_
  refine x_al rfl rfl ?_
  refine x_getC rfl hn (by with_reducible exact sh_0 (by first | assumption | exact sh_turned | exact pr_sh (by first | assumption | exact prA (by omega) | exact prD | exact prB (by assumption) (by omega)) | exact ma_sh (by first | assumption | exact maA (by omega) | exact maB (by assumption) (by omega)))) (by exact rfl) ?_
  refine x_il rfl rfl ?_
  refine x_call3 (c_turnedX ht) rfl (Nat.le_of_ble_eq_true rfl) (Or.inl (by first | exact hn | assumption)) trivial (Nat.le_of_ble_eq_true rfl) (Nat.le_of_ble_eq_true rfl) (fun E w9 hq => hq.elim) ?_
  rintro v9 w9 ⟨rfl, rfl⟩
  refine x_is (lo' := [_, _, _, _, _, _, _, _]) rfl (Nat.le_of_ble_eq_true rfl) rfl ?_
  refine x_al rfl rfl ?_
  refine x_getC rfl hn (by with_reducible exact sh_0 (by first | assumption | exact sh_turned | exact pr_sh (by first | assumption | exact prA (by omega) | exact prD | exact prB (by assumption) (by omega)) | exact ma_sh (by first | assumption | exact maA (by omega) | exact maB (by assumption) (by omega)))) (by exact rfl) ?_
  refine x_al rfl rfl ?_
  refine x_getC rfl hn (by with_reducible exact sh_0 (by first | assumption | exact sh_turned | exact pr_sh (by first | assumption | exact prA (by omega) | exact prD | exact prB (by assumption) (by omega)) | exact ma_sh (by first | assumption | exact maA (by omega) | exact maB (by assumption) (by omega)))) (by exact rfl) ?_
  refine x_il rfl rfl ?_
  refine x_call3 (c_turnedY ht) rfl (Nat.le_of_ble_eq_true rfl) (Or.inl (by first | exact hn | assumption)) trivial (Nat.le_of_ble_eq_true rfl) (Nat.le_of_ble_eq_true rfl) (fun E w9 hq => hq.elim) ?_
  rintro v9 w9 ⟨rfl, rfl⟩
  refine x_is (lo' := [_, _, _, _, _, _, _, _]) rfl (Nat.le_of_ble_eq_true rfl) rfl ?_
  refine x_al rfl rfl ?_
  refine x_getC rfl hn (by with_reducible exact sh_0 (by first | assumption | exact sh_turned | exact pr_sh (by first | assumption | exact prA (by omega) | exact prD | exact prB (by assumption) (by omega)) | exact ma_sh (by first | assumption | exact maA (by omega) | exact maB (by assumption) (by omega)))) (by exact rfl) ?_
  refine x_al rfl rfl ?_
  refine x_getC rfl hn (by with_reducible exact sh_0 (by first | assumption | exact sh_turned | exact pr_sh (by first | assumption | exact prA (by omega) | exact prD | exact prB (by assumption) (by omega)) | exact ma_sh (by first | assumption | exact maA (by omega) | exact maB (by assumption) (by omega)))) (by exact rfl) ?_
  refine x_il rfl rfl ?_
  refine x_call3 (c_turnedX ht) rfl (Nat.le_of_ble_eq_true rfl) (Or.inl (by first | exact hn | assumption)) trivial (Nat.le_of_ble_eq_true rfl) (Nat.le_of_ble_eq_true rfl) (fun E w9 hq => hq.elim) ?_
  rintro v9 w9 ⟨rfl, rfl⟩
  refine x_is (lo' := [_, _, _, _, _, _, _, _]) rfl (Nat.le_of_ble_eq_true rfl) rfl ?_
  refine x_al rfl rfl ?_
  refine x_getC rfl hn (by with_reducible exact sh_0 (by first | assumption | exact sh_turned | exact pr_sh (by first | assumption | exact prA (by omega) | exact prD | exact prB (by assumption) (by omega)) | exact ma_sh (by first | assumption | exact maA (by omega) | exact maB (by assumption) (by omega)))) (by exact rfl) ?_
  refine x_al rfl rfl ?_
  refine x_getC rfl hn (by with_reducible exact sh_0 (by first | assumption | exact sh_turned | exact pr_sh (by first | assumption | exact prA (by omega) | exact prD | exact prB (by assumption) (by omega)) | exact ma_sh (by first | assumption | exact maA (by omega) | exact maB (by assumption) (by omega)))) (by exact rfl) ?_
  refine x_il rfl rfl ?_
  refine x_call3 (c_turnedY ht) rfl (Nat.le_of_ble_eq_true rfl) (Or.inl (by first | exact hn | assumption)) trivial (Nat.le_of_ble_eq_true rfl) (Nat.le_of_ble_eq_true rfl) (fun E w9 hq => hq.elim) ?_
  rintro v9 w9 ⟨rfl, rfl⟩
  refine x_is (lo' := [_, _, _, _, _, _, _, _]) rfl (Nat.le_of_ble_eq_true rfl) rfl ?_
  refine x_al rfl rfl ?_
  refine x_il rfl rfl ?_
  refine x_il rfl rfl ?_
  refine x_call2 (m_min) rfl (Nat.le_of_ble_eq_true rfl) (Or.inl (by first | exact hn | assumption)) trivial (Nat.le_of_ble_eq_true rfl) (Nat.le_of_ble_eq_true rfl) (fun E w9 hq => hq.elim) ?_
  rintro v9 w9 ⟨rfl, rfl⟩
  refine x_il rfl rfl ?_
  refine x_il rfl rfl ?_
  refine x_call2 (m_min) rfl (Nat.le_of_ble_eq_true rfl) (Or.inl (by first | exact hn | assumption)) trivial (Nat.le_of_ble_eq_true rfl) (Nat.le_of_ble_eq_true rfl) (fun E w9 hq => hq.elim) ?_
  rintro v9 w9 ⟨rfl, rfl⟩
  refine x_il rfl rfl ?_
  refine x_il rfl rfl ?_
  refine x_call2 (m_max) rfl (Nat.le_of_ble_eq_true rfl) (Or.inl (by first | exact hn | assumption)) trivial (Nat.le_of_ble_eq_true rfl) (Nat.le_of_ble_eq_true rfl) (fun E w9 hq => hq.elim) ?_
  rintro v9 w9 ⟨rfl, rfl⟩
  refine x_il rfl rfl ?_
  refine x_il rfl rfl ?_
  refine x_call2 (m_max) rfl (Nat.le_of_ble_eq_true rfl) (Or.inl (by first | exact hn | assumption)) trivial (Nat.le_of_ble_eq_true rfl) (Nat.le_of_ble_eq_true rfl) (fun E w9 hq => hq.elim) ?_
  rintro v9 w9 ⟨rfl, rfl⟩
  refine x_call5 (c_begin hq hn) rfl (Nat.le_of_ble_eq_true rfl) (Or.inl (by first | exact hn | assumption)) (rcv_at (cw_fs (by with_reducible exact sh_0 (by first | assumption | exact sh_turned | exact pr_sh (by first | assumption | exact prA (by omega) | exact prD | exact prB (by assumption) (by omega)) | exact ma_sh (by first | assumption | exact maA (by omega) | exact maB (by assumption) (by omega)))) hn) (by decide) (by decide)) (Nat.le_of_ble_eq_true rfl) (Nat.le_of_ble_eq_true rfl) (fun E w9 hq => hq.elim) ?_
  rintro v9 w9 ⟨rfl, rfl⟩
  refine x_c rfl ?_
  refine x_is (lo' := [_, _, _, _, _, _, _, _]) rfl (Nat.le_of_ble_eq_true rfl) rfl ?_
  exact loop 0 (Nat.zero_le _) _ _ _ _ _ _ ⟨rfl, ⟨rfl, rfl, rfl, rfl⟩, fun j hj => absurd hj (by omega), fun r _ => rfl⟩
/-- q holds what p held -/
def CpS (F A : Nat → Nat → Int32) (h : Nat → Int32) (A' : Nat → Nat → Int32) (q p : Nat) : Prop :=
  (h 4 = F p 4 ∧ h 5 = F p 5 ∧ h 6 = F p 6 ∧ h 7 = F p 7 ∧ h 8 = F p 8) ∧ (∀ r, 1 ≤ r → r < 5 → ∀ j, j < 8 → A' (q + r) j = A (p + r) j) ∧ ∀ r, (r ≤ q ∨ q + 4 < r) → A' r = A r
theorem cpC_at {f h : Nat → Int32} {n j : Nat} (hj : j < n) : va_cpy f h 0 0 n j = f j := by
  unfold va_cpy
  rw [if_pos ⟨by omega, by omega⟩, Nat.zero_add, Nat.sub_zero]
theorem c_copySheet {q p : Nat} (hq : ShAt q) (hp : ShAt p) (hd : p + 4 < q ∨ q + 4 < p) (hn : w.1 = N0) : Ev g (d + 3) 66 [.ref q, .ref p] (cW w F A L) (fun v w' => v = none ∧ ∃ h A', w' = cW w (udA F q h) A' L ∧ CpS F A h A' q p) noX := by
  refine ev_X6_copyFrom ?_ (Nat.le_of_ble_eq_true rfl)
  refine x_lo (lo' := [some (.ref q), some (.ref p)]) rfl ?_
  refine x_al rfl rfl ?_
  refine x_al rfl rfl ?_
  refine x_getC rfl hn (by with_reducible exact sh_0 (by first | assumption | exact sh_turned | exact pr_sh (by first | assumption | exact prA (by omega) | exact prD | exact prB (by assumption) (by omega)) | exact ma_sh (by first | assumption | exact maA (by omega) | exact maB (by assumption) (by omega)))) (by exact rfl) ?_
  refine x_al rfl rfl ?_
  refine x_getC rfl hn (by with_reducible exact sh_0 (by first | assumption | exact sh_turned | exact pr_sh (by first | assumption | exact prA (by omega) | exact prD | exact prB (by assumption) (by omega)) | exact ma_sh (by first | assumption | exact maA (by omega) | exact maB (by assumption) (by omega)))) (by exact rfl) ?_
  refine x_al rfl rfl ?_
  refine x_getC rfl hn (by with_reducible exact sh_0 (by first | assumption | exact sh_turned | exact pr_sh (by first | assumption | exact prA (by omega) | exact prD | exact prB (by assumption) (by omega)) | exact ma_sh (by first | assumption | exact maA (by omega) | exact maB (by assumption) (by omega)))) (by exact rfl) ?_
  refine x_al rfl rfl ?_
  refine x_getC rfl hn (by with_reducible exact sh_0 (by first | assumption | exact sh_turned | exact pr_sh (by first | assumption | exact prA (by omega) | exact prD | exact prB (by assumption) (by omega)) | exact ma_sh (by first | assumption | exact maA (by omega) | exact maB (by assumption) (by omega)))) (by exact rfl) ?_
  refine x_call5 (c_begin hq hn) rfl (Nat.le_of_ble_eq_true rfl) (Or.inl (by first | exact hn | assumption)) (rcv_at (cw_fs (by with_reducible exact sh_0 (by first | assumption | exact sh_turned | exact pr_sh (by first | assumption | exact prA (by omega) | exact prD | exact prB (by assumption) (by omega)) | exact ma_sh (by first | assumption | exact maA (by omega) | exact maB (by assumption) (by omega)))) hn) (by decide) (by decide)) (Nat.le_of_ble_eq_true rfl) (Nat.le_of_ble_eq_true rfl) (fun E w9 hq => hq.elim) ?_
  rintro v9 w9 ⟨rfl, rfl⟩
  refine x_al rfl rfl ?_
  refine x_al rfl rfl ?_
  refine x_getC rfl hn (by with_reducible exact sh_0 (by first | assumption | exact sh_turned | exact pr_sh (by first | assumption | exact prA (by omega) | exact prD | exact prB (by assumption) (by omega)) | exact ma_sh (by first | assumption | exact maA (by omega) | exact maB (by assumption) (by omega)))) (by exact rfl) ?_
  refine x_putC rfl hn (by with_reducible exact sh_0 (by first | assumption | exact sh_turned | exact pr_sh (by first | assumption | exact prA (by omega) | exact prD | exact prB (by assumption) (by omega)) | exact ma_sh (by first | assumption | exact maA (by omega) | exact maB (by assumption) (by omega)))) (by exact rfl) (by first | rfl | exact nr_z (by assumption)) rfl ?_
  refine x_al rfl rfl ?_
  refine x_getC rfl hn (by with_reducible exact sh_0 (by first | assumption | exact sh_turned | exact pr_sh (by first | assumption | exact prA (by omega) | exact prD | exact prB (by assumption) (by omega)) | exact ma_sh (by first | assumption | exact maA (by omega) | exact maB (by assumption) (by omega)))) (by exact rfl) ?_
  refine x_al rfl rfl ?_
  refine x_getC rfl hn (by with_reducible exact sh_0 (by first | assumption | exact sh_turned | exact pr_sh (by first | assumption | exact prA (by omega) | exact prD | exact prB (by assumption) (by omega)) | exact ma_sh (by first | assumption | exact maA (by omega) | exact maB (by assumption) (by omega)))) (by exact rfl) ?_
  refine x_call2 (c_copy (sh_1 hp) (sh_1 hq) (by decide) hn) rfl (Nat.le_of_ble_eq_true rfl) (Or.inl (by first | exact hn | assumption)) trivial (Nat.le_of_ble_eq_true rfl) (Nat.le_of_ble_eq_true rfl) (fun E w9 hq => hq.elim) ?_
  rintro v9 w9 ⟨rfl, rfl⟩
  refine x_al rfl rfl ?_
  refine x_getC rfl hn (by with_reducible exact sh_0 (by first | assumption | exact sh_turned | exact pr_sh (by first | assumption | exact prA (by omega) | exact prD | exact prB (by assumption) (by omega)) | exact ma_sh (by first | assumption | exact maA (by omega) | exact maB (by assumption) (by omega)))) (by exact rfl) ?_
  refine x_al rfl rfl ?_
  refine x_getC rfl hn (by with_reducible exact sh_0 (by first | assumption | exact sh_turned | exact pr_sh (by first | assumption | exact prA (by omega) | exact prD | exact prB (by assumption) (by omega)) | exact ma_sh (by first | assumption | exact maA (by omega) | exact maB (by assumption) (by omega)))) (by exact rfl) ?_
  refine x_call2 (c_copy (sh_2 hp) (sh_2 hq) (by decide) hn) rfl (Nat.le_of_ble_eq_true rfl) (Or.inl (by first | exact hn | assumption)) trivial (Nat.le_of_ble_eq_true rfl) (Nat.le_of_ble_eq_true rfl) (fun E w9 hq => hq.elim) ?_
  rintro v9 w9 ⟨rfl, rfl⟩
  refine x_al rfl rfl ?_
  refine x_getC rfl hn (by with_reducible exact sh_0 (by first | assumption | exact sh_turned | exact pr_sh (by first | assumption | exact prA (by omega) | exact prD | exact prB (by assumption) (by omega)) | exact ma_sh (by first | assumption | exact maA (by omega) | exact maB (by assumption) (by omega)))) (by exact rfl) ?_
  refine x_al rfl rfl ?_
  refine x_getC rfl hn (by with_reducible exact sh_0 (by first | assumption | exact sh_turned | exact pr_sh (by first | assumption | exact prA (by omega) | exact prD | exact prB (by assumption) (by omega)) | exact ma_sh (by first | assumption | exact maA (by omega) | exact maB (by assumption) (by omega)))) (by exact rfl) ?_
  refine x_call2 (c_copy (sh_3 hp) (sh_3 hq) (by decide) hn) rfl (Nat.le_of_ble_eq_true rfl) (Or.inl (by first | exact hn | assumption)) trivial (Nat.le_of_ble_eq_true rfl) (Nat.le_of_ble_eq_true rfl) (fun E w9 hq => hq.elim) ?_
  rintro v9 w9 ⟨rfl, rfl⟩
  refine x_al rfl rfl ?_
  refine x_getC rfl hn (by with_reducible exact sh_0 (by first | assumption | exact sh_turned | exact pr_sh (by first | assumption | exact prA (by omega) | exact prD | exact prB (by assumption) (by omega)) | exact ma_sh (by first | assumption | exact maA (by omega) | exact maB (by assumption) (by omega)))) (by exact rfl) ?_
  refine x_al rfl rfl ?_
  refine x_getC rfl hn (by with_reducible exact sh_0 (by first | assumption | exact sh_turned | exact pr_sh (by first | assumption | exact prA (by omega) | exact prD | exact prB (by assumption) (by omega)) | exact ma_sh (by first | assumption | exact maA (by omega) | exact maB (by assumption) (by omega)))) (by exact rfl) ?_
  refine x_call2 (c_copy (sh_4 hp) (sh_4 hq) (by decide) hn) rfl (Nat.le_of_ble_eq_true rfl) (Or.inl (by first | exact hn | assumption)) trivial (Nat.le_of_ble_eq_true rfl) (Nat.le_of_ble_eq_true rfl) (fun E w9 hq => hq.elim) ?_
  rintro v9 w9 ⟨rfl, rfl⟩
  refine x_retv rfl (Nat.le_of_ble_eq_true rfl) (Nat.le_of_ble_eq_true rfl) rfl ?_
  refine ⟨rfl, _, _, by rw [udA_t, udA_udA], ⟨?_, ?_, ?_, ?_, ?_⟩, ?_, ?_⟩
  · rw [upd_at, udA_ne (by omega)]
  · rfl
  · rfl
  · rfl
  · rfl
  · intro r h1 h5 j hj
    match r, h1, h5 with
    | 1, _, _ =>
      rw [udA_ne (by omega), udA_ne (by omega), udA_ne (by omega), udA_t, cpC_at hj]
    | 2, _, _ =>
      rw [udA_ne (by omega), udA_ne (by omega), udA_t, cpC_at hj, udA_ne (by omega)]
    | 3, _, _ =>
      rw [udA_ne (by omega), udA_t, cpC_at hj, udA_ne (by omega), udA_ne (by omega)]
    | 4, _, _ =>
      rw [udA_t, cpC_at hj, udA_ne (by omega), udA_ne (by omega), udA_ne (by omega)]
  · intro r hr
    rw [udA_ne (by omega), udA_ne (by omega), udA_ne (by omega), udA_ne (by omega)]
end CALLS
