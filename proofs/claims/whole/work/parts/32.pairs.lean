/-! bits -/
def bt (x : Int32) (j : Nat) : Bool := x.toBitVec.getLsbD j
def sb (x : Int32) (j : Nat) : Int32 := x ||| (1 <<< (nI j &&& 31))
theorem nI_31 {j : Nat} (h : j < 32) : ((nI j &&& 31).toBitVec.smod 32).toNat = j := by
  have : ∀ k : Fin 32, ((nI k.1 &&& 31).toBitVec.smod 32).toNat = k.1 := by decide
  exact this ⟨j, h⟩
theorem bv_and1 (y : BitVec 32) : y &&& 1#32 = if y.getLsbD 0 then 1#32 else 0#32 := by
  rw [BitVec.and_one_eq_setWidth_ofBool_getLsbD]
  cases y.getLsbD 0 <;> rfl
theorem bt_shr {x : Int32} {j : Nat} (h : j < 32) : (x >>> (nI j &&& 31)) &&& 1 = bI (bt x j) := by
  apply Int32.toBitVec_inj.mp
  rw [Int32.toBitVec_and, Int32.toBitVec_shiftRight]
  show BitVec.sshiftRight' x.toBitVec ((nI j &&& 31).toBitVec.smod 32) &&& 1#32 = _
  rw [bv_and1]
  unfold BitVec.sshiftRight'
  rw [nI_31 h, BitVec.getLsbD_sshiftRight]
  simp only [show ¬ 32 ≤ 0 by decide, decide_false, Bool.not_false, Bool.true_and, Nat.add_zero, h, if_true]
  unfold bt bI
  split <;> rename_i e <;> simp [e]
theorem bt_1 {k j : Nat} (hk : k < 32) (hj : j < 32) : bt (1 <<< (nI k &&& 31)) j = decide (k = j) := by
  have : ∀ a b : Fin 32, bt (1 <<< (nI a.1 &&& 31)) b.1 = decide (a.1 = b.1) := by decide
  exact this ⟨k, hk⟩ ⟨j, hj⟩
theorem bt_or {x y : Int32} {j : Nat} : bt (x ||| y) j = (bt x j || bt y j) := by
  unfold bt; rw [Int32.toBitVec_or, BitVec.getLsbD_or]
theorem bt_sb {x : Int32} {k j : Nat} (hk : k < 32) (hj : j < 32) : bt (sb x k) j = (bt x j || decide (k = j)) := by
  unfold sb; rw [bt_or, bt_1 hk hj]
theorem bt_0 (j : Nat) : bt 0 j = false := by unfold bt; exact BitVec.getLsbD_zero
theorem bI_z {b : Bool} : bI b = 0 ↔ b = false := by cases b <;> simp [bI]
theorem bI_1 {b : Bool} : bI b = 1 ↔ b = true := by cases b <;> simp [bI]
/-- the row of bits for which P holds -/
def bitsF (P : Nat → Bool) (n : Nat) : Int32 := acc (fun j x => x ||| (if P j then 1 <<< (nI j &&& 31) else 0)) 0 n
theorem bt_bits {P : Nat → Bool} {n j : Nat} (hn : n ≤ 32) (hj : j < 32) : bt (bitsF P n) j = (decide (j < n) && P j) := by
  induction n with
  | zero => unfold bitsF acc; rw [bt_0]; simp
  | succ n ih =>
    unfold bitsF; rw [acc_s]
    show bt (bitsF P n ||| _) j = _
    rw [bt_or, ih (by omega)]
    by_cases hp : P n = true
    · rw [if_pos hp, bt_1 (by omega) hj]
      by_cases e : n = j
      · subst e; simp [hp]
      · have : (decide (j < n + 1)) = decide (j < n) := by by_cases h : j < n <;> simp [h] <;> omega
        rw [this]; simp [e]
    · rw [if_neg hp, bt_0, Bool.or_false]
      by_cases e : j = n
      · subst e; simp [hp]
      · have : (decide (j < n + 1)) = decide (j < n) := by by_cases h : j < n <;> simp [h] <;> omega
        rw [this]
theorem it_inv {σ ρ : Type} {n : Nat} {step : Nat → σ → σ ⊕ ρ} {fin : σ → ρ} (I : σ → Prop) (R : ρ → Prop) (h1 : ∀ c s s', c < n → I s → step c s = .inl s' → I s') (h2 : ∀ c s r, c < n → I s → step c s = .inr r → R r) (h3 : ∀ s, I s → R (fin s)) : ∀ c, c ≤ n → ∀ s, I s → R (it n step fin c s) := by
  refine downN n fun c hc ih => ?_
  intro s hs
  rcases Nat.lt_or_ge c n with h | h
  · match e : step c s with
    | .inl s' => rw [it_go h e]; exact ih h s' (h1 c s s' h hs e)
    | .inr r => rw [it_ret h e]; exact h2 c s r h hs e
  · rw [it_end h]; exact h3 s hs
theorem it_rel {σ σ' ρ ρ' : Type} {n n' : Nat} {step : Nat → σ → σ ⊕ ρ} {fin : σ → ρ} {step' : Nat → σ' → σ' ⊕ ρ'} {fin' : σ' → ρ'} (Rs : σ → σ' → Prop) (Rr : ρ → ρ' → Prop) (hn : n ≤ n') (h1 : ∀ c s s', c < n → Rs s s' → (∃ a b, step c s = .inl a ∧ step' c s' = .inl b ∧ Rs a b) ∨ (∃ a b, step c s = .inr a ∧ step' c s' = .inr b ∧ Rr a b)) (h2 : ∀ c s s', n ≤ c → c < n' → Rs s s' → step' c s' = .inl s') (h3 : ∀ s s', Rs s s' → Rr (fin s) (fin' s')) : ∀ c, c ≤ n' → ∀ s s', Rs s s' → Rr (it n step fin c s) (it n' step' fin' c s') := by
  refine downN n' fun c hc ih => ?_
  intro s s' hs
  rcases Nat.lt_or_ge c n with h | h
  · rcases h1 c s s' h hs with ⟨a, b, e1, e2, r⟩ | ⟨a, b, e1, e2, r⟩
    · rw [it_go h e1, it_go (by omega) e2]; exact ih (by omega) a b r
    · rw [it_ret h e1, it_ret (by omega) e2]; exact r
  · rw [it_end h]
    rcases Nat.lt_or_ge c n' with h' | h'
    · rw [it_go h' (h2 c s s' h h' hs)]
      have := ih h' s s' hs
      rw [it_end (by omega)] at this
      exact this
    · rw [it_end h']; exact h3 s s' hs
theorem cn_lt {P P' : Nat → Bool} {n j : Nat} (h : ∀ x, x < n → P' x = true → P x = true) (hj : j < n) (h1 : P j = true) (h2 : ¬ P' j = true) : cn P' n + 1 ≤ cn P n := by
  have mono : ∀ k, k ≤ n → cn P' k ≤ cn P k := by
    intro k
    induction k with
    | zero => intro _; exact Nat.le_refl _
    | succ k ih =>
      intro hk
      have := ih (by omega)
      by_cases hp : P' k = true
      · rw [cn_t hp, cn_t (h k (by omega) hp)]; omega
      · rw [cn_f hp]; by_cases hq : P k = true
        · rw [cn_t hq]; omega
        · rw [cn_f hq]; omega
  have : ∀ k, j < k → k ≤ n → cn P' k + 1 ≤ cn P k := by
    intro k
    induction k with
    | zero => intro h; omega
    | succ k ih =>
      intro h3 hk
      by_cases e : j = k
      · subst e
        rw [cn_f h2, cn_t h1]
        have := mono j (by omega)
        omega
      · have := ih (by omega) (by omega)
        by_cases hp : P' k = true
        · rw [cn_t hp, cn_t (h k (by omega) hp)]; omega
        · rw [cn_f hp]; by_cases hq : P k = true
          · rw [cn_t hq]; omega
          · rw [cn_f hq]; omega
  exact this n hj (Nat.le_refl _)
theorem cn_mono {P P' : Nat → Bool} {n : Nat} (h : ∀ x, x < n → P' x = true → P x = true) : cn P' n ≤ cn P n := by
  have mono : ∀ k, k ≤ n → cn P' k ≤ cn P k := by
    intro k
    induction k with
    | zero => intro _; exact Nat.le_refl _
    | succ k ih =>
      intro hk
      have := ih (by omega)
      by_cases hp : P' k = true
      · rw [cn_t hp, cn_t (h k (by omega) hp)]; omega
      · rw [cn_f hp]; by_cases hq : P k = true
        · rw [cn_t hq]; omega
        · rw [cn_f hq]; omega
  exact mono n (Nat.le_refl _)
/-! pairs -/
abbrev skS : Type := Int32 × (Nat → Int32)
def seekS (rc : Nat → skS → Bool × skS) (row : Int32) (i : Nat) (j : Nat) (s : skS) : skS ⊕ (Bool × skS) := if bt row j = false ∨ bt s.1 j = true then .inl s else if s.2 j < 0 then .inr (true, sb s.1 j, upd s.2 j (nI i)) else if (rc (s.2 j).toNatClampNeg (sb s.1 j, s.2)).1 = true then .inr (true, (rc (s.2 j).toNatClampNeg (sb s.1 j, s.2)).2.1, upd (rc (s.2 j).toNatClampNeg (sb s.1 j, s.2)).2.2 j (nI i)) else .inl (rc (s.2 j).toNatClampNeg (sb s.1 j, s.2)).2
/-- our point i looks for a partner; the state: who was tried, who is held by whom -/
def seekF (may : Nat → Int32) (many : Nat) : Nat → Nat → skS → Bool × skS
  | 0, _, s => (false, s)
  | k + 1, i, s => it many (seekS (seekF may many k) (may i) i) (fun s => (false, s)) 0 s
def HoOk (ours many : Nat) (ho : Nat → Int32) : Prop := ∀ j, j < many → ho j < 0 ∨ ∃ i, i < ours ∧ ho j = nI i
theorem ho_upd {ours many j i : Nat} {ho : Nat → Int32} (h : HoOk ours many ho) (hi : i < ours) : HoOk ours many (upd ho j (nI i)) := by
  intro k hk
  by_cases e : k = j
  · subst e; exact Or.inr ⟨i, hi, pk_us⟩
  · rw [pk_un e]; exact h k hk
theorem seek_inv {may : Nat → Int32} {ours many : Nat} (ho8 : ours ≤ 8) (hm : many ≤ 8) : ∀ k i, i < ours → ∀ s : skS, HoOk ours many s.2 → (∀ j, j < 32 → bt s.1 j = true → bt (seekF may many k i s).2.1 j = true) ∧ HoOk ours many (seekF may many k i s).2.2 := by
  intro k
  induction k with
  | zero => intro i hi s hs; exact ⟨fun j _ h => h, hs⟩
  | succ k ih =>
    intro i hi s hs
    refine it_inv (I := fun (t : skS) => (∀ j, j < 32 → bt s.1 j = true → bt t.1 j = true) ∧ HoOk ours many t.2) (R := fun (r : Bool × skS) => (∀ j, j < 32 → bt s.1 j = true → bt r.2.1 j = true) ∧ HoOk ours many r.2.2) ?_ ?_ (fun t h => h) 0 (Nat.zero_le _) s ⟨fun j _ h => h, hs⟩
    · intro c t t' hc ht e
      unfold seekS at e
      split at e
      · cases e; exact ht
      · split at e
        · cases e
        · rename_i h1 h2
          split at e
          · cases e
          · cases e
            rcases ht.2 c hc with h3 | ⟨i', hi', e'⟩
            · exact absurd h3 h2
            · have := ih i' hi' (sb t.1 c, t.2) ht.2
              rw [e', nI_clamp (by omega)]
              exact ⟨fun j hj hb => this.1 j hj (by rw [bt_sb (by omega) hj, ht.1 j hj hb]; rfl), this.2⟩
    · intro c t r hc ht e
      unfold seekS at e
      split at e
      · cases e
      · split at e
        · cases e
          exact ⟨fun j hj hb => by show bt (sb t.1 c) j = true; rw [bt_sb (by omega) hj, ht.1 j hj hb]; rfl, ho_upd ht.2 hi⟩
        · rename_i h1 h2
          split at e
          · cases e
            rcases ht.2 c hc with h3 | ⟨i', hi', e'⟩
            · exact absurd h3 h2
            · have := ih i' hi' (sb t.1 c, t.2) ht.2
              rw [e', nI_clamp (by omega)]
              exact ⟨fun j hj hb => this.1 j hj (by rw [bt_sb (by omega) hj, ht.1 j hj hb]; rfl), ho_upd this.2 hi⟩
          · cases e
theorem u20 {m : Nat → Int32} {a b : Int32} : upd (upd m 20 a) 20 b = upd m 20 b := by
  funext j; unfold upd; by_cases h : j = 20 <;> simp [h]
theorem udA_udA {A : Nat → Nat → Int32} {q : Nat} {a b : Nat → Int32} : udA (udA A q a) q b = udA A q b := by
  funext j; unfold udA; by_cases h : j = q <;> simp [h]
theorem udA_self {A : Nat → Nat → Int32} {q : Nat} : udA A q (A q) = A := by
  funext j; unfold udA; by_cases h : j = q <;> simp [h]
theorem upd_self {f : Nat → Int32} {q : Nat} : upd f q (f q) = f := by
  funext j; unfold upd; by_cases h : j = q <;> simp [h]
section PAIRS
variable {g : aG} {d : Nat} {w : aW} {m f : Nat → Int32} {A : Nat → Nat → Int32} {B : Nat → Nat → Int64}
theorem n_seeks {ours many : Nat} (ho8 : ours ≤ 8) (hm8 : many ≤ 8) (hn : w.1 = N0) : ∀ k tr ho i, i < ours → cn (fun j => !bt tr j) many ≤ k → HoOk ours many ho → Ev g (d + k + 1) 224 [.ref 1424, .int (nI i), .int (nI many)] (rW w (upd m 20 tr) f (udA A 1431 ho) B) (fun v w' => v = some (.int (bI (seekF (A 1430) many (k + 1) i (tr, ho)).1)) ∧ w' = rW w (upd m 20 (seekF (A 1430) many (k + 1) i (tr, ho)).2.1) f (udA A 1431 (seekF (A 1430) many (k + 1) i (tr, ho)).2.2) B) noX := by
  intro k
  induction k using Nat.strongRecOn with
  | ind k IH =>
  intro tr ho i hi hk hh
  refine ev_X11_seeks ?_ (Nat.le_of_ble_eq_true rfl)
  refine x_lo (lo' := [some (.ref 1424), some (.int (nI i)), some (.int (nI many)), none]) rfl ?_
  refine x_c rfl ?_
  refine x_is (lo' := [_, _, _, _]) rfl (Nat.le_of_ble_eq_true rfl) rfl ?_
  generalize hR : seekF (A 1430) many (k + 1) i (tr, ho) = R
  have loop : ∀ j, j ≤ many → ∀ tr1 ho1, HoOk ours many ho1 → cn (fun j => !bt tr1 j) many ≤ k → it many (seekS (seekF (A 1430) many k) (A 1430 i) i) (fun s => (false, s)) j (tr1, ho1) = R → EX g mbOf (Ev g (d + k)) (infoOf 224) k_X11_seeks (fun v w' => v = some (.int (bI R.1)) ∧ w' = rW w (upd m 20 R.2.1) f (udA A 1431 R.2.2) B) noX w.1 (rW w (upd m 20 tr1) f (udA A 1431 ho1) B) 0 0 2 [some (.ref 1424), some (.int (nI i)), some (.int (nI many)), some (.int (nI j))] [] := by
    refine downN many fun j hj ih => ?_
    intro tr1 ho1 h1 hc1 e
    refine x_il rfl rfl ?_
    refine x_il rfl rfl ?_
    refine x_icgeN rfl (by omega) (fun c => ?_) (fun c => ?_)
    · refine x_c rfl ?_
      refine x_retz rfl (Nat.le_of_ble_eq_true rfl) (Nat.le_of_ble_eq_true rfl) rfl (by first | rfl | assumption) ?_
      rw [it_end c] at e
      subst e
      exact ⟨rfl, rfl⟩
    refine x_al rfl rfl ?_
    refine x_get rfl (rw_md hn) (by exact rfl) ?_
    refine x_il rfl rfl ?_
    refine x_iaN rfl (by first | exact rw_md hn | exact rw_w hn | exact rw_A hn (by exact rfl) | exact rw_B2 hn | exact rw_B3 hn | assumption) (by omega) ?_
    rw [show udA A 1431 ho1 1430 i = A 1430 i from rfl]
    refine x_il rfl rfl ?_
    refine x_shr rfl ?_
    refine x_c rfl ?_
    refine x_and rfl ?_
    rw [bt_shr (by omega)]
    refine x_ifeq rfl (fun c1 => ?_) (fun c1 => ?_)
    · refine x_inc1 (lo' := [_, _, _, _]) rfl rfl rfl ?_
      refine x_go rfl ?_
      refine ih c tr1 ho1 h1 hc1 ?_
      rw [← e, it_go c (if_pos (Or.inl (bI_z.mp c1)))]
    refine x_al rfl rfl ?_
    refine x_get rfl (rw_md hn) (by exact rfl) ?_
    rw [show upd m 20 tr1 20 = tr1 from rfl]
    refine x_il rfl rfl ?_
    refine x_shr rfl ?_
    refine x_c rfl ?_
    refine x_and rfl ?_
    rw [bt_shr (by omega)]
    refine x_c rfl ?_
    refine x_icne rfl (fun c2 => ?_) (fun c2 => ?_)
    rotate_left
    · refine x_go rfl ?_
      refine x_inc1 (lo' := [_, _, _, _]) rfl rfl rfl ?_
      refine x_go rfl ?_
      refine ih c tr1 ho1 h1 hc1 ?_
      rw [← e, it_go c (if_pos (Or.inr (bI_1.mp c2)))]
    refine x_al rfl rfl ?_
    refine x_dup rfl rfl ?_
    refine x_get rfl (rw_md hn) (by exact rfl) ?_
    refine x_c rfl ?_
    refine x_il rfl rfl ?_
    refine x_shl rfl ?_
    refine x_or rfl ?_
    refine x_putM rfl hn rfl rfl rfl rfl ?_
    refine x_al rfl rfl ?_
    refine x_get rfl (rw_md hn) (by exact rfl) ?_
    refine x_il rfl rfl ?_
    refine x_iaN rfl (by first | exact rw_md hn | exact rw_w hn | exact rw_A hn (by exact rfl) | exact rw_B2 hn | exact rw_B3 hn | assumption) (by omega) ?_
    have c1 : ¬ bt (A 1430 i) j = false := fun h => c1 (bI_z.mpr h)
    have c2 : ¬ bt tr1 j = true := fun h => c2 (bI_1.mpr h)
    have hst : ¬ (bt (A 1430 i) j = false ∨ bt tr1 j = true) := fun h => h.elim c1 c2
    rw [show upd (upd m 20 tr1) 20 (upd m 20 tr1 20 ||| 1 <<< (nI j &&& 31)) = upd m 20 (sb tr1 j) from u20, show udA A 1431 ho1 1431 j = ho1 j from rfl]
    refine x_iflt rfl (fun c3 => ?_) (fun c3 => ?_)
    · refine x_al rfl rfl ?_
      refine x_get rfl (rw_md hn) (by exact rfl) ?_
      refine x_il rfl rfl ?_
      refine x_il rfl rfl ?_
      first | refine x_iasW rfl hn (by omega) ?_ | refine x_iasA rfl hn (by exact rfl) (by omega) ?_
      refine x_c rfl ?_
      refine x_retz rfl (Nat.le_of_ble_eq_true rfl) (Nat.le_of_ble_eq_true rfl) rfl (by first | rfl | assumption) ?_
      rw [udA_udA]
      rw [it_ret c (r := (true, sb tr1 j, upd ho1 j (nI i))) (by unfold seekS; rw [if_neg hst, if_pos c3])] at e
      subst e
      exact ⟨rfl, rfl⟩
    refine x_al rfl rfl ?_
    refine x_al rfl rfl ?_
    refine x_get rfl (rw_md hn) (by exact rfl) ?_
    refine x_il rfl rfl ?_
    refine x_iaN rfl (by first | exact rw_md hn | exact rw_w hn | exact rw_A hn (by exact rfl) | exact rw_B2 hn | exact rw_B3 hn | assumption) (by omega) ?_
    rcases h1 j c with h3 | ⟨i', hi', e'⟩
    · exact absurd h3 c3
    have hlt : cn (fun x => !bt (sb tr1 j) x) many + 1 ≤ cn (fun j => !bt tr1 j) many := cn_lt (j := j) (fun x hx h => by rw [bt_sb (by omega) (by omega)] at h; revert h; cases bt tr1 x <;> simp) c (by simpa using c2) (by rw [bt_sb (by omega) (by omega)]; simp)
    obtain ⟨k, rfl⟩ : ∃ k9, k = k9 + 1 := ⟨k - 1, by omega⟩
    rw [show udA A 1431 ho1 1431 j = ho1 j from rfl, e']
    refine x_il rfl rfl ?_
    refine x_call3 (IH k (by omega) (sb tr1 j) ho1 i' hi' (by omega) h1) rfl (Nat.le_of_ble_eq_true rfl) (Or.inl (by first | exact hn | assumption)) (rcv_at (by first | exact rw_md hn | exact rw_w hn | exact rw_A hn (by exact rfl) | exact rw_B2 hn | exact rw_B3 hn | assumption) (by decide) (by decide)) (Nat.le_of_ble_eq_true rfl) (Nat.le_of_ble_eq_true rfl) (fun E w9 hq => hq.elim) ?_
    rintro v9 w9 ⟨rfl, rfl⟩
    have hs : seekS (seekF (A 1430) many (k + 1)) (A 1430 i) i j (tr1, ho1) = if (seekF (A 1430) many (k + 1) i' (sb tr1 j, ho1)).1 = true then .inr (true, (seekF (A 1430) many (k + 1) i' (sb tr1 j, ho1)).2.1, upd (seekF (A 1430) many (k + 1) i' (sb tr1 j, ho1)).2.2 j (nI i)) else .inl (seekF (A 1430) many (k + 1) i' (sb tr1 j, ho1)).2 := by
      unfold seekS
      rw [if_neg hst, if_neg c3]
      simp only [e', nI_clamp (show i' < 2 ^ 31 by omega)]
    have inv := seek_inv (may := A 1430) ho8 hm8 (k + 1) i' hi' (sb tr1 j, ho1) h1
    generalize seekF (A 1430) many (k + 1) i' (sb tr1 j, ho1) = r at *
    obtain ⟨r1, r2, r3⟩ := r
    refine x_ifeq rfl (fun c4 => ?_) (fun c4 => ?_)
    · refine x_inc1 (lo' := [_, _, _, _]) rfl rfl rfl ?_
      refine x_go rfl ?_
      refine ih c r2 r3 inv.2 ?_ ?_
      · have : cn (fun j => !bt r2 j) many ≤ cn (fun x => !bt (sb tr1 j) x) many := cn_mono (fun x hx h => by
          have := inv.1 x (by omega)
          revert h this
          cases bt (sb tr1 j) x <;> simp)
        omega
      · rw [← e, it_go c (s' := (r2, r3)) (by rw [hs, if_neg (by rw [bI_z.mp c4]; decide)])]
    refine x_al rfl rfl ?_
    refine x_get rfl (rw_md hn) (by exact rfl) ?_
    refine x_il rfl rfl ?_
    refine x_il rfl rfl ?_
    first | refine x_iasW rfl hn (by omega) ?_ | refine x_iasA rfl hn (by exact rfl) (by omega) ?_
    refine x_c rfl ?_
    refine x_retz rfl (Nat.le_of_ble_eq_true rfl) (Nat.le_of_ble_eq_true rfl) rfl (by first | rfl | assumption) ?_
    rw [udA_udA]
    have hr : r1 = true := by cases r1 with
      | true => rfl
      | false => exact absurd rfl c4
    rw [it_ret c (by rw [hs, if_pos hr])] at e
    subst e
    exact ⟨rfl, rfl⟩
  exact loop 0 (Nat.zero_le _) tr ho hh hk hR
end PAIRS
