/-! calls that only read; cw_ -/
def nQ (W : aW) (b : Bool) : Option Value → aW → Prop := fun v1 w' => b = true ∧ v1 = none ∧ w' = W
def nX (W : aW) (b : Bool) (k : Nat) : String → aW → Prop := fun E w' => b = false ∧ E = exN k ∧ w' = W
/-- how a call ends well: its answer, the State afterwards -/
def caQ (w : aW) (F A : Nat → Nat → Int32) (f1 : Nat → Int32) (v : Nat) (thr : Int32) (r : Option Value) : Option Value → aW → Prop := fun v1 w' => thr = 0 ∧ v1 = r ∧ ∃ F' A' L' np nm nc nt ns nh v', w' = cW w F' A' L' ∧ v' ≤ v + 1 ∧ stI F A F' A' f1 np nm nc nt ns nh v'
/-- how a call throws: nothing changed -/
def caX (W : aW) (thr : Int32) (a b : Nat) : String → aW → Prop := fun E w' => w' = W ∧ ((thr = 1 ∧ E = exN a) ∨ (thr = 2 ∧ E = exN b))
theorem thr_1 {P : Prop} [Decidable P] {x : Int32} (h : ¬ P) : (if P then x else 1) = (1 : Int32) := if_neg h
theorem thr_0 {P : Prop} [Decidable P] {x : Int32} (h : P) : (if P then 0 else x) = (0 : Int32) := if_pos h
theorem fne {b : Bool} (h : b = false) : ¬ b = true := by rw [h]; decide
theorem ge_no {x : Int32} {n : Nat} (hl : n < 2 ^ 31) (c : ¬ x < nI n) : okN x n = false := c_noN2 (Int32.not_lt.mp c)
section CALLS
variable {g : aG} {d : Nat} {w : aW} {F A : Nat → Nat → Int32} {L : Nat → Int64} {f : Nat → Int32} {np nm nc nt ns nh v : Nat}
theorem ca_ro {v1 r : Option Value} {thr : Int32} (hK : KI F A f np nm v) (hR : RS F A f 6 np nm nc nt ns nh) (hI : IV f np nm nc nt ns nh) (hr : v1 = r) (ht : thr = 0) : caQ w F A f v thr r v1 (cW w F A L) := ⟨ht, hr, F, A, L, np, nm, nc, nt, ns, nh, v, rfl, Nat.le_succ _, hR, hI, hK, fun _ _ => ⟨rfl, rfl⟩⟩
theorem ca_sx {v1 r : Option Value} {thr : Int32} {F' A' : Nat → Nat → Int32} {L' : Nat → Int64} (hR : RS F A f 6 np nm nc nt ns nh) (hI : IV f np nm nc nt ns nh) (hs : ∀ q, (q < 1396 ∨ q = 1409) → F' q = F q ∧ A' q = A q) (hK : KI F' A' f np nm v) (hr : v1 = r) (ht : thr = 0) : caQ w F A f v thr r v1 (cW w F' A' L') := ⟨ht, hr, F', A', L', np, nm, nc, nt, ns, nh, v, rfl, Nat.le_succ _, hR.keep hI (fun q h1 h2 => hs q (by omega)), hI, hK, fun q hq => hs q (by omega)⟩
theorem c_needPrint {x : Int32} (h : F 6 4 = nI np) (hl : np < 2 ^ 31) (hn : w.1 = N0) : Ev g (d + 2) 169 [.ref 0, .int x] (cW w F A L) (nQ (cW w F A L) (okN x np)) (nX (cW w F A L) (okN x np) 2) := by
  refine ev_X10_needPrint ?_ (Nat.le_of_ble_eq_true rfl)
  refine x_lo (lo' := [some (.ref 0), some (.int x)]) rfl ?_
  refine x_al rfl rfl ?_
  refine x_getC rfl hn (by with_reducible exact sp_0) (by exact rfl) ?_
  refine x_il rfl rfl ?_
  refine x_call2 (c_isPrint h hl hn) rfl (Nat.le_of_ble_eq_true rfl) (Or.inl (by first | exact hn | assumption)) (rcv_at (cw_fs (by with_reducible exact (by first | exact sp_6 | exact st_0 (by assumption))) hn) (by decide) (by decide)) (Nat.le_of_ble_eq_true rfl) (Nat.le_of_ble_eq_true rfl) (fun E w9 hq => hq.elim) ?_
  rintro v9 w9 ⟨rfl, rfl⟩
  cases hb : okN x np with
  | true =>
    refine x_ifne rfl (fun e9 => ?_) (fun e9 => absurd e9 (by decide))
    refine x_retv rfl (Nat.le_of_ble_eq_true rfl) (Nat.le_of_ble_eq_true rfl) rfl ?_
    exact ⟨rfl, rfl, rfl⟩
  | false =>
    refine x_ifne rfl (fun e9 => absurd rfl e9) (fun e9 => ?_)
    refine x_thr rfl hn rfl (Nat.le_of_ble_eq_true rfl) (Nat.le_of_ble_eq_true rfl) (Nat.le_of_ble_eq_true rfl) ?_
    exact ⟨rfl, rfl, rfl⟩
theorem c_needMark {x : Int32} (h : F 6 5 = nI nm) (hl : nm < 2 ^ 31) (hn : w.1 = N0) : Ev g (d + 2) 170 [.ref 0, .int x] (cW w F A L) (nQ (cW w F A L) (okN x nm)) (nX (cW w F A L) (okN x nm) 2) := by
  refine ev_X10_needMark ?_ (Nat.le_of_ble_eq_true rfl)
  refine x_lo (lo' := [some (.ref 0), some (.int x)]) rfl ?_
  refine x_al rfl rfl ?_
  refine x_getC rfl hn (by with_reducible exact sp_0) (by exact rfl) ?_
  refine x_il rfl rfl ?_
  refine x_call2 (c_isMark h hl hn) rfl (Nat.le_of_ble_eq_true rfl) (Or.inl (by first | exact hn | assumption)) (rcv_at (cw_fs (by with_reducible exact (by first | exact sp_6 | exact st_0 (by assumption))) hn) (by decide) (by decide)) (Nat.le_of_ble_eq_true rfl) (Nat.le_of_ble_eq_true rfl) (fun E w9 hq => hq.elim) ?_
  rintro v9 w9 ⟨rfl, rfl⟩
  cases hb : okN x nm with
  | true =>
    refine x_ifne rfl (fun e9 => ?_) (fun e9 => absurd e9 (by decide))
    refine x_retv rfl (Nat.le_of_ble_eq_true rfl) (Nat.le_of_ble_eq_true rfl) rfl ?_
    exact ⟨rfl, rfl, rfl⟩
  | false =>
    refine x_ifne rfl (fun e9 => absurd rfl e9) (fun e9 => ?_)
    refine x_thr rfl hn rfl (Nat.le_of_ble_eq_true rfl) (Nat.le_of_ble_eq_true rfl) (Nat.le_of_ble_eq_true rfl) ?_
    exact ⟨rfl, rfl, rfl⟩
theorem c_needCard {x : Int32} (h : F 6 6 = nI nc) (hl : nc < 2 ^ 31) (hn : w.1 = N0) : Ev g (d + 2) 171 [.ref 0, .int x] (cW w F A L) (nQ (cW w F A L) (okN x nc)) (nX (cW w F A L) (okN x nc) 2) := by
  refine ev_X10_needCard ?_ (Nat.le_of_ble_eq_true rfl)
  refine x_lo (lo' := [some (.ref 0), some (.int x)]) rfl ?_
  refine x_al rfl rfl ?_
  refine x_getC rfl hn (by with_reducible exact sp_0) (by exact rfl) ?_
  refine x_il rfl rfl ?_
  refine x_call2 (c_isCard h hl hn) rfl (Nat.le_of_ble_eq_true rfl) (Or.inl (by first | exact hn | assumption)) (rcv_at (cw_fs (by with_reducible exact (by first | exact sp_6 | exact st_0 (by assumption))) hn) (by decide) (by decide)) (Nat.le_of_ble_eq_true rfl) (Nat.le_of_ble_eq_true rfl) (fun E w9 hq => hq.elim) ?_
  rintro v9 w9 ⟨rfl, rfl⟩
  cases hb : okN x nc with
  | true =>
    refine x_ifne rfl (fun e9 => ?_) (fun e9 => absurd e9 (by decide))
    refine x_retv rfl (Nat.le_of_ble_eq_true rfl) (Nat.le_of_ble_eq_true rfl) rfl ?_
    exact ⟨rfl, rfl, rfl⟩
  | false =>
    refine x_ifne rfl (fun e9 => absurd rfl e9) (fun e9 => ?_)
    refine x_thr rfl hn rfl (Nat.le_of_ble_eq_true rfl) (Nat.le_of_ble_eq_true rfl) (Nat.le_of_ble_eq_true rfl) ?_
    exact ⟨rfl, rfl, rfl⟩
theorem c_needFinger {x : Int32} (hn : w.1 = N0) : Ev g (d + 2) 172 [.int x] w (nQ w (okN x 10)) (nX w (okN x 10) 2) := by
  refine ev_X10_needFinger ?_ (Nat.le_of_ble_eq_true rfl)
  refine x_lo (lo' := [some (.int x)]) rfl ?_
  refine x_il rfl rfl ?_
  refine x_call1 (c_isFinger hn) rfl (Nat.le_of_ble_eq_true rfl) (Or.inl (by first | exact hn | assumption)) trivial (Nat.le_of_ble_eq_true rfl) (Nat.le_of_ble_eq_true rfl) (fun E w9 hq => hq.elim) ?_
  rintro v9 w9 ⟨rfl, rfl⟩
  cases hb : okN x 10 with
  | true =>
    refine x_ifne rfl (fun e9 => ?_) (fun e9 => absurd e9 (by decide))
    refine x_retv rfl (Nat.le_of_ble_eq_true rfl) (Nat.le_of_ble_eq_true rfl) rfl ?_
    exact ⟨rfl, rfl, rfl⟩
  | false =>
    refine x_ifne rfl (fun e9 => absurd rfl e9) (fun e9 => ?_)
    refine x_thr rfl hn rfl (Nat.le_of_ble_eq_true rfl) (Nat.le_of_ble_eq_true rfl) (Nat.le_of_ble_eq_true rfl) ?_
    exact ⟨rfl, rfl, rfl⟩
theorem c_isSpan {x y : Int32} : Ev g (d + 1) 175 [.int x, .int y] w (RetQ (bI (spB x y)) w) noX := by
  refine ev_X10_isSpan ?_ (Nat.le_of_ble_eq_true rfl)
  refine x_lo (lo' := [some (.int x), some (.int y)]) rfl ?_
  refine x_il rfl rfl ?_
  unfold spB
  refine x_iflt rfl (fun c1 => ?_) (fun c1 => ?_)
  · refine x_c rfl ?_
    refine x_retz rfl (Nat.le_of_ble_eq_true rfl) (Nat.le_of_ble_eq_true rfl) rfl (by first | rfl | assumption) ?_
    exact ret_f (fun h => absurd c1 (Int32.not_lt.mpr h.1))
  refine x_il rfl rfl ?_
  refine x_il rfl rfl ?_
  refine x_icgt rfl (fun c2 => ?_) (fun c2 => ?_)
  · refine x_c rfl ?_
    refine x_retz rfl (Nat.le_of_ble_eq_true rfl) (Nat.le_of_ble_eq_true rfl) rfl (by first | rfl | assumption) ?_
    exact ret_f (fun h => absurd c2 (Int32.not_lt.mpr h.2.1))
  refine x_il rfl rfl ?_
  refine x_c rfl ?_
  refine x_icgt rfl (fun c3 => ?_) (fun c3 => ?_)
  · refine x_c rfl ?_
    refine x_retz rfl (Nat.le_of_ble_eq_true rfl) (Nat.le_of_ble_eq_true rfl) rfl (by first | rfl | assumption) ?_
    exact ret_f (fun h => absurd c3 (Int32.not_lt.mpr h.2.2))
  refine x_c rfl ?_
  refine x_go rfl ?_
  refine x_retz rfl (Nat.le_of_ble_eq_true rfl) (Nat.le_of_ble_eq_true rfl) rfl (by first | rfl | assumption) ?_
  exact ret_t ⟨Int32.not_lt.mp c1, Int32.not_lt.mp c2, Int32.not_lt.mp c3⟩
theorem spB_ok {x : Int32} : spB x x = okN x 64 := by
  unfold spB okN
  refine dec_congr ⟨fun h => ⟨h.1, ?_⟩, fun h => ⟨h.1, Int32.le_refl x, ?_⟩⟩
  · have := h.2.2
    rw [Int32.le_iff_toInt_le] at this
    rw [Int32.lt_iff_toInt_lt]
    show x.toInt < 64
    have : x.toInt ≤ 63 := this
    omega
  · have := h.2
    rw [Int32.lt_iff_toInt_lt] at this
    rw [Int32.le_iff_toInt_le]
    show x.toInt ≤ 63
    have : x.toInt < 64 := this
    omega
theorem c_needPoint {x y k h : Int32} (hn : w.1 = N0) : Ev g (d + 2) 174 [.int x, .int y, .int k, .int h] w (nQ w (ptB x y k h)) (nX w (ptB x y k h) 0) := by
  have no : ptB x y k h = false → EX g mbOf (Ev g (d + 1)) (infoOf 174) k_X10_needPoint (nQ w (ptB x y k h)) (nX w (ptB x y k h) 0) w.1 (w) 0 0 18 [some (.int x), some (.int y), some (.int k), some (.int h)] [] := by
    intro hp
    refine x_thr rfl hn rfl (Nat.le_of_ble_eq_true rfl) (Nat.le_of_ble_eq_true rfl) (Nat.le_of_ble_eq_true rfl) ?_
    exact ⟨hp, rfl, rfl⟩
  refine ev_X10_needPoint ?_ (Nat.le_of_ble_eq_true rfl)
  refine x_lo (lo' := [some (.int x), some (.int y), some (.int k), some (.int h)]) rfl ?_
  refine x_il rfl rfl ?_
  refine x_il rfl rfl ?_
  refine x_call2 (c_isSpan) rfl (Nat.le_of_ble_eq_true rfl) (Or.inl (by first | exact hn | assumption)) trivial (Nat.le_of_ble_eq_true rfl) (Nat.le_of_ble_eq_true rfl) (fun E w9 hq => hq.elim) ?_
  rintro v9 w9 ⟨rfl, rfl⟩
  rw [spB_ok]
  unfold ptB at *
  cases h1 : okN x 64 with
  | false =>
    refine x_ifeq rfl (fun e9 => ?_) (fun e9 => absurd rfl e9)
    rw [h1] at no
    exact no rfl
  | true =>
    refine x_ifeq rfl (fun e9 => absurd e9 (show ¬ (1 : Int32) = 0 by decide)) (fun e9 => ?_)
    refine x_il rfl rfl ?_
    refine x_il rfl rfl ?_
    refine x_call2 (c_isSpan) rfl (Nat.le_of_ble_eq_true rfl) (Or.inl (by first | exact hn | assumption)) trivial (Nat.le_of_ble_eq_true rfl) (Nat.le_of_ble_eq_true rfl) (fun E w9 hq => hq.elim) ?_
    rintro v9 w9 ⟨rfl, rfl⟩
    rw [spB_ok]
    cases h2 : okN y 64 with
    | false =>
      refine x_ifeq rfl (fun e9 => ?_) (fun e9 => absurd rfl e9)
      rw [h1, h2] at no
      exact no rfl
    | true =>
      rw [h1, h2] at no
      refine x_ifeq rfl (fun e9 => absurd e9 (show ¬ (1 : Int32) = 0 by decide)) (fun e9 => ?_)
      refine x_il rfl rfl ?_
      refine x_iflt rfl (fun c1 => ?_) (fun c1 => ?_)
      · skip
        exact no (by rw [c_noN1 c1]; rfl)
      refine x_il rfl rfl ?_
      refine x_c rfl ?_
      refine x_icge rfl (fun c2 => ?_) (fun c2 => ?_)
      · skip
        exact no (by rw [c_noN2 (n := 3) c2]; rfl)
      refine x_il rfl rfl ?_
      have o1 : okN k 3 = true := c_okN (n := 3) (by decide) c1 c2
      refine x_iflt rfl (fun c3 => ?_) (fun c3 => ?_)
      · skip
        exact no (by rw [c_noN1 c3, o1]; rfl)
      refine x_il rfl rfl ?_
      refine x_c rfl ?_
      refine x_iclt rfl (fun c4 => ?_) (fun c4 => ?_)
      rotate_left
      · skip
        exact no (by rw [ge_no (n := 16) (by decide) c4, o1]; rfl)
      refine x_retv rfl (Nat.le_of_ble_eq_true rfl) (Nat.le_of_ble_eq_true rfl) rfl ?_
      have o2 : okN h 16 = true := c_okN (n := 16) (by decide) c3 (Int32.not_le.mpr c4)
      exact ⟨by rw [o1, o2]; rfl, rfl, rfl⟩
end CALLS
