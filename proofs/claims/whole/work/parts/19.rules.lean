/-! rules by which runs of the abstract machine are found -/
def csM (cs cs' : aS) : Prop := ∀ (mid : Nat) (av : List Value) (w : aW) (Qr Qr' : Option Value → aW → Prop) (Qx Qx' : String → aW → Prop), (∀ v w, Qr v w → Qr' v w) → (∀ E w, Qx E w → Qx' E w) → cs mid av w Qr Qx → cs' mid av w Qr' Qx'
theorem opS_mono {g : aG} {mb : Nat → Nat × Nat} {cs cs' : aS} {I : aInfo} {K : List aI} {k k' : aK} {Qr Qr' : Option Value → aW → Prop} {Qx Qx' : String → aW → Prop} {nb : Nat} {ins : aI} {w : aW} {uc us i : Nat} {lo : List (Option Value)} {st : List Value} (hc : csM cs cs') (hk : ∀ w uc us i lo st, k w uc us i lo st → k' w uc us i lo st) (hr : ∀ v w, Qr v w → Qr' v w) (hx : ∀ E w, Qx E w → Qx' E w)
    (h : opS g mb cs I K k Qr Qx nb ins w uc us i lo st) : opS g mb cs' I K k' Qr' Qx' nb ins w uc us i lo st := by
  unfold opS at h ⊢
  dsimp only at h ⊢
  split at h
  · obtain ⟨v, h1, h2, h3⟩ := h
    exact ⟨v, h1, h2, hk _ _ _ _ _ _ h3⟩
  · unfold opSt at h ⊢
    split at h
    · exact ⟨h.1, h.2.1, h.2.2.1, hk _ _ _ _ _ _ h.2.2.2⟩
    · exact h
  · exact hk _ _ _ _ _ _ h
  · unfold opInc at h ⊢
    split at h
    · obtain ⟨x, h1, h2⟩ := h
      exact ⟨x, h1, hk _ _ _ _ _ _ h2⟩
    · exact h
  · unfold opBin at h ⊢
    split at h
    · exact hk _ _ _ _ _ _ h
    · exact h
  · unfold opDv at h ⊢
    split at h
    · exact ⟨h.1, hk _ _ _ _ _ _ h.2⟩
    · exact h
  · unfold opUn at h ⊢
    split at h
    · exact hk _ _ _ _ _ _ h
    · exact h
  · unfold opBinL at h ⊢
    split at h
    · exact hk _ _ _ _ _ _ h
    · exact h
  · unfold opDvL at h ⊢
    split at h
    · exact ⟨h.1, hk _ _ _ _ _ _ h.2⟩
    · exact h
  · unfold opCmL at h ⊢
    split at h
    · exact hk _ _ _ _ _ _ h
    · exact h
  · unfold opShL at h ⊢
    split at h
    · exact hk _ _ _ _ _ _ h
    · exact h
  · unfold opDup at h ⊢
    split at h
    · exact ⟨h.1, hk _ _ _ _ _ _ h.2⟩
    · exact ⟨h.1, h.2.1, hk _ _ _ _ _ _ h.2.2⟩
    · exact ⟨h.1, hk _ _ _ _ _ _ h.2⟩
    · exact h
  · unfold opIf at h ⊢
    split at h
    · exact ⟨fun q => hk _ _ _ _ _ _ (h.1 q), fun q => hk _ _ _ _ _ _ (h.2 q)⟩
    · exact h
  · unfold opCmp at h ⊢
    split at h
    · exact ⟨fun q => hk _ _ _ _ _ _ (h.1 q), fun q => hk _ _ _ _ _ _ (h.2 q)⟩
    · exact h
  · exact hk _ _ _ _ _ _ h
  · unfold opSw at h ⊢
    split at h
    · exact ⟨fun q => hk _ _ _ _ _ _ (h.1 q), fun j t h1 h2 => hk _ _ _ _ _ _ (h.2 j t h1 h2)⟩
    · exact h
  · unfold opGet at h ⊢
    split at h
    · obtain ⟨fs, v, h1, h2, h3⟩ := h
      exact ⟨fs, v, h1, h2, hk _ _ _ _ _ _ h3⟩
    · exact h
  · unfold opPut at h ⊢
    split at h
    · obtain ⟨fs, h1, h2, h3, h4, h5⟩ := h
      exact ⟨fs, h1, h2, h3, h4, hk _ _ _ _ _ _ h5⟩
    · exact h
  · unfold opPut at h ⊢
    split at h
    · obtain ⟨fs, h1, h2, h3, h4, h5⟩ := h
      exact ⟨fs, h1, h2, h3, h4, hk _ _ _ _ _ _ h5⟩
    · exact h
  · unfold opLen at h ⊢
    split at h
    · obtain ⟨n, h1, h2⟩ := h
      exact ⟨n, h1, hk _ _ _ _ _ _ h2⟩
    · exact h
  · unfold opILd at h ⊢
    split at h
    · obtain ⟨t, n, f, h1, h2, h3, h4⟩ := h
      exact ⟨t, n, f, h1, h2, h3, hk _ _ _ _ _ _ h4⟩
    · exact h
  · unfold opISt at h ⊢
    split at h
    · obtain ⟨t, n, f, h1, h2, h3, h4⟩ := h
      exact ⟨t, n, f, h1, h2, h3, hk _ _ _ _ _ _ h4⟩
    · exact h
  · unfold opILd at h ⊢
    split at h
    · obtain ⟨t, n, f, h1, h2, h3, h4⟩ := h
      exact ⟨t, n, f, h1, h2, h3, hk _ _ _ _ _ _ h4⟩
    · exact h
  · unfold opISt at h ⊢
    split at h
    · obtain ⟨t, n, f, h1, h2, h3, h4⟩ := h
      exact ⟨t, n, f, h1, h2, h3, hk _ _ _ _ _ _ h4⟩
    · exact h
  · unfold opLLd at h ⊢
    split at h
    · obtain ⟨n, f, h1, h2, h3⟩ := h
      exact ⟨n, f, h1, h2, hk _ _ _ _ _ _ h3⟩
    · exact h
  · unfold opLSt at h ⊢
    split at h
    · obtain ⟨n, f, h1, h2, h3⟩ := h
      exact ⟨n, f, h1, h2, hk _ _ _ _ _ _ h3⟩
    · exact h
  · unfold opALd at h ⊢
    split at h
    · obtain ⟨t, n, f, y, h1, h2, h3, h4, h5⟩ := h
      exact ⟨t, n, f, y, h1, h2, h3, h4, hk _ _ _ _ _ _ h5⟩
    · exact h
  · unfold opASt at h ⊢
    split at h
    · obtain ⟨t, n, f, ci, vs, C, h1, h2, h3, h4, h5, h6, h7⟩ := h
      exact ⟨t, n, f, ci, vs, C, h1, h2, h3, h4, h5, h6, hk _ _ _ _ _ _ h7⟩
    · exact h
  · exact ⟨h.1, h.2.1, h.2.2.1, h.2.2.2.1, hk _ _ _ _ _ _ h.2.2.2.2⟩
  · unfold opNewA at h ⊢
    split at h
    · exact ⟨h.1, h.2.1, h.2.2.1, h.2.2.2.1, h.2.2.2.2.1, h.2.2.2.2.2.1, hk _ _ _ _ _ _ h.2.2.2.2.2.2⟩
    · exact h
  · obtain ⟨h1, h2, h3, h4, h5, h6, h7⟩ := h
    refine ⟨h1, h2, h3, h4, h5, h6, hc _ _ _ _ _ _ _ (fun v w' q => hk _ _ _ _ _ _ q) (fun E w' q => ?_) h7⟩
    split at q
    · obtain ⟨a, vv, ll, e1, e2, e3⟩ := q
      exact ⟨a, vv, ll, e1, e2, hk _ _ _ _ _ _ e3⟩
    · exact ⟨q.1, hx _ _ q.2⟩
  · unfold opCpy at h ⊢
    split at h
    · obtain ⟨n0, f, n1, f1, h1, h2, h3, h4, h5, h6, h7, h8, h9⟩ := h
      exact ⟨n0, f, n1, f1, h1, h2, h3, h4, h5, h6, h7, h8, hk _ _ _ _ _ _ h9⟩
    · exact h
  · unfold opObj at h ⊢
    split at h
    · exact ⟨h.1, hk _ _ _ _ _ _ h.2⟩
    · exact h
  · exact ⟨h.1, h.2.1, h.2.2.1, h.2.2.2.1, h.2.2.2.2.1, hx _ _ h.2.2.2.2.2⟩
  · refine ⟨h.1, h.2.1, ?_⟩
    have h3 := h.2.2
    split at h3
    · exact ⟨h3.1, hr _ _ h3.2⟩
    · exact ⟨h3.1, hr _ _ h3.2⟩
    · exact ⟨h3.1, hr _ _ h3.2⟩
    · exact ⟨h3.1, hr _ _ h3.2⟩
    · exact h3
  · exact hk _ _ _ _ _ _ h
  · exact hk _ _ _ _ _ _ h
  · unfold opGetS at h ⊢
    split at h
    · exact ⟨h.1, h.2.1, h.2.2.1, hk _ _ _ _ _ _ h.2.2.2⟩
    · exact h
  · exact h
theorem EX_mono {g : aG} {mb : Nat → Nat × Nat} {cs cs' : aS} {I : aInfo} {K : List aI} {Qr Qr' : Option Value → aW → Prop} {Qx Qx' : String → aW → Prop} {nb : Nat} {w : aW} {uc us i : Nat} {lo : List (Option Value)} {st : List Value} (hc : csM cs cs') (hr : ∀ v w, Qr v w → Qr' v w) (hx : ∀ E w, Qx E w → Qx' E w)
    (h : EX g mb cs I K Qr Qx nb w uc us i lo st) : EX g mb cs' I K Qr' Qx' nb w uc us i lo st :=
  fun k hk => h k fun _ _ _ _ _ _ _ h1 h2 => hk _ _ _ _ _ _ _ h1 (opS_mono hc (fun _ _ _ _ _ _ q => q) hr hx h2)
theorem Ev_mono (g : aG) : ∀ d, csM (Ev g d) (Ev g d) := by
  intro d
  induction d with
  | zero => intro mid av w Qr Qr' Qx Qx' _ _ h; exact h.elim
  | succ d ih => intro mid av w Qr Qr' Qx Qx' h1 h2 h; exact ⟨h.1, h.2.1, EX_mono ih h1 h2 h.2.2⟩
theorem Ev_up1 (g : aG) : ∀ d, csM (Ev g d) (Ev g (d + 1)) := by
  intro d
  induction d with
  | zero => intro mid av w Qr Qr' Qx Qx' _ _ h; exact h.elim
  | succ d ih => intro mid av w Qr Qr' Qx Qx' h1 h2 h; exact ⟨h.1, h.2.1, EX_mono ih h1 h2 h.2.2⟩
theorem Ev_up (g : aG) (d : Nat) : ∀ n, csM (Ev g d) (Ev g (d + n)) := by
  intro n
  induction n with
  | zero => exact Ev_mono g d
  | succ n ih => intro mid av w Qr Qr' Qx Qx' h1 h2 h; exact Ev_up1 g (d + n) mid av w Qr' Qr' Qx' Qx' (fun _ _ q => q) (fun _ _ q => q) (ih mid av w Qr Qr' Qx Qx' h1 h2 h)
section RULES
variable {g : aG} {d : Nat} {I : aInfo} {K : List aI} {Qr : Option Value → aW → Prop} {Qx : String → aW → Prop} {nb : Nat} {w : aW} {uc us i : Nat} {lo : List (Option Value)} {st : List Value}
theorem x_step {ins : aI} (hK : K[i]? = some ins) (h : opS g mbOf (Ev g d) I K (EX g mbOf (Ev g d) I K Qr Qx nb) Qr Qx nb ins w uc us i lo st) : EX g mbOf (Ev g d) I K Qr Qx nb w uc us i lo st :=
  fun k hk => hk _ _ _ _ _ _ _ hK (opS_mono (Ev_mono g d) (fun _ _ _ _ _ _ q => q k hk) (fun _ _ q => q) (fun _ _ q => q) h)
theorem x_il {a : Nat} {x : Int32} (hK : K[i]? = some (aO 0 a 0)) (h : lo[a]? = some (some (.int x))) (k : EX g mbOf (Ev g d) I K Qr Qx nb w uc us (i + 1) lo (.int x :: st)) : EX g mbOf (Ev g d) I K Qr Qx nb w uc us i lo (st) := x_step hK ⟨_, h, rfl, k⟩
theorem x_al {a : Nat} {x : Nat} (hK : K[i]? = some (aO 0 a 1)) (h : lo[a]? = some (some (.ref x))) (k : EX g mbOf (Ev g d) I K Qr Qx nb w uc us (i + 1) lo (.ref x :: st)) : EX g mbOf (Ev g d) I K Qr Qx nb w uc us i lo (st) := x_step hK ⟨_, h, rfl, k⟩
theorem x_ll {a : Nat} {x : Int64} (hK : K[i]? = some (aO 0 a 2)) (h : lo[a]? = some (some (.long x))) (k : EX g mbOf (Ev g d) I K Qr Qx nb w uc us (i + 1) lo (.long x :: st)) : EX g mbOf (Ev g d) I K Qr Qx nb w uc us i lo (st) := x_step hK ⟨_, h, rfl, k⟩
theorem x_is {a : Nat} {x : Int32} {lo' : List (Option Value)} (hK : K[i]? = some (aO 1 a 0)) (ha : a < lo.length) (hl : setL lo a (.int x) = lo') (k : EX g mbOf (Ev g d) I K Qr Qx nb w uc us (i + 1) lo' (st)) : EX g mbOf (Ev g d) I K Qr Qx nb w uc us i lo (.int x :: st) := x_step hK ⟨rfl, ha, (fun h => by cases h), by subst hl; exact k⟩
theorem x_as {a : Nat} {x : Nat} {lo' : List (Option Value)} (hK : K[i]? = some (aO 1 a 1)) (ha : a < lo.length) (hl : setL lo a (.ref x) = lo') (k : EX g mbOf (Ev g d) I K Qr Qx nb w uc us (i + 1) lo' (st)) : EX g mbOf (Ev g d) I K Qr Qx nb w uc us i lo (.ref x :: st) := x_step hK ⟨rfl, ha, (fun h => by cases h), by subst hl; exact k⟩
theorem x_ls {a : Nat} {x : Int64} {lo' : List (Option Value)} (hK : K[i]? = some (aO 1 a 2)) (ha : a + 1 < lo.length) (hl : setL lo a (.long x) = lo') (k : EX g mbOf (Ev g d) I K Qr Qx nb w uc us (i + 1) lo' (st)) : EX g mbOf (Ev g d) I K Qr Qx nb w uc us i lo (.long x :: st) := x_step hK ⟨rfl, Nat.lt_of_succ_lt ha, fun _ => ha, by subst hl; exact k⟩
theorem x_isn {a : Nat} {x : Int32} (hK : K[i]? = some (aO 1 a 0)) (ha : a < lo.length) (k : ∀ y : Int32, y = x → EX g mbOf (Ev g d) I K Qr Qx nb w uc us (i + 1) (setL lo a (.int y)) st) : EX g mbOf (Ev g d) I K Qr Qx nb w uc us i lo (.int x :: st) := x_is hK ha rfl (k x rfl)
theorem x_c {a : Nat} {v : Value} (hK : K[i]? = some (aC a v)) (k : EX g mbOf (Ev g d) I K Qr Qx nb w uc us (i + 1) lo (v :: st)) : EX g mbOf (Ev g d) I K Qr Qx nb w uc us i lo (st) := x_step hK k
theorem x_inc {a : Nat} {n x : Int32} {lo' : List (Option Value)} (hK : K[i]? = some (aN a n)) (h : lo[a]? = some (some (.int x))) (hl : setL lo a (.int (x + n)) = lo') (k : EX g mbOf (Ev g d) I K Qr Qx nb w uc us (i + 1) lo' (st)) : EX g mbOf (Ev g d) I K Qr Qx nb w uc us i lo (st) := x_step hK ⟨x, h, by subst hl; exact k⟩
theorem x_add {x y : Int32} (hK : K[i]? = some (aO 4 0 0)) (k : EX g mbOf (Ev g d) I K Qr Qx nb w uc us (i + 1) lo (.int (x + y) :: st)) : EX g mbOf (Ev g d) I K Qr Qx nb w uc us i lo (.int y :: .int x :: st) := x_step hK k
theorem x_sub {x y : Int32} (hK : K[i]? = some (aO 4 0 1)) (k : EX g mbOf (Ev g d) I K Qr Qx nb w uc us (i + 1) lo (.int (x - y) :: st)) : EX g mbOf (Ev g d) I K Qr Qx nb w uc us i lo (.int y :: .int x :: st) := x_step hK k
theorem x_mul {x y : Int32} (hK : K[i]? = some (aO 4 0 2)) (k : EX g mbOf (Ev g d) I K Qr Qx nb w uc us (i + 1) lo (.int (x * y) :: st)) : EX g mbOf (Ev g d) I K Qr Qx nb w uc us i lo (.int y :: .int x :: st) := x_step hK k
theorem x_and {x y : Int32} (hK : K[i]? = some (aO 4 0 3)) (k : EX g mbOf (Ev g d) I K Qr Qx nb w uc us (i + 1) lo (.int (x &&& y) :: st)) : EX g mbOf (Ev g d) I K Qr Qx nb w uc us i lo (.int y :: .int x :: st) := x_step hK k
theorem x_or {x y : Int32} (hK : K[i]? = some (aO 4 0 4)) (k : EX g mbOf (Ev g d) I K Qr Qx nb w uc us (i + 1) lo (.int (x ||| y) :: st)) : EX g mbOf (Ev g d) I K Qr Qx nb w uc us i lo (.int y :: .int x :: st) := x_step hK k
theorem x_xor {x y : Int32} (hK : K[i]? = some (aO 4 0 5)) (k : EX g mbOf (Ev g d) I K Qr Qx nb w uc us (i + 1) lo (.int (x ^^^ y) :: st)) : EX g mbOf (Ev g d) I K Qr Qx nb w uc us i lo (.int y :: .int x :: st) := x_step hK k
theorem x_shl {x y : Int32} (hK : K[i]? = some (aO 4 0 6)) (k : EX g mbOf (Ev g d) I K Qr Qx nb w uc us (i + 1) lo (.int (x <<< (y &&& 31)) :: st)) : EX g mbOf (Ev g d) I K Qr Qx nb w uc us i lo (.int y :: .int x :: st) := x_step hK k
theorem x_shr {x y : Int32} (hK : K[i]? = some (aO 4 0 7)) (k : EX g mbOf (Ev g d) I K Qr Qx nb w uc us (i + 1) lo (.int (x >>> (y &&& 31)) :: st)) : EX g mbOf (Ev g d) I K Qr Qx nb w uc us i lo (.int y :: .int x :: st) := x_step hK k
theorem x_div {x y : Int32} (hK : K[i]? = some (aO 5 0 0)) (hy : ¬ y = 0) (k : EX g mbOf (Ev g d) I K Qr Qx nb w uc us (i + 1) lo (.int (x / y) :: st)) : EX g mbOf (Ev g d) I K Qr Qx nb w uc us i lo (.int y :: .int x :: st) := x_step hK ⟨hy, k⟩
theorem x_rem {x y : Int32} (hK : K[i]? = some (aO 5 0 1)) (hy : ¬ y = 0) (k : EX g mbOf (Ev g d) I K Qr Qx nb w uc us (i + 1) lo (.int (x - x / y * y) :: st)) : EX g mbOf (Ev g d) I K Qr Qx nb w uc us i lo (.int y :: .int x :: st) := x_step hK ⟨hy, k⟩
theorem x_i2l {x : Int32} (hK : K[i]? = some (aO 6 0 0)) (k : EX g mbOf (Ev g d) I K Qr Qx nb w uc us (i + 1) lo (.long x.toInt64 :: st)) : EX g mbOf (Ev g d) I K Qr Qx nb w uc us i lo (.int x :: st) := x_step hK k
theorem x_i2b {x : Int32} (hK : K[i]? = some (aO 6 0 1)) (k : EX g mbOf (Ev g d) I K Qr Qx nb w uc us (i + 1) lo (.int x.toInt8.toInt32 :: st)) : EX g mbOf (Ev g d) I K Qr Qx nb w uc us i lo (.int x :: st) := x_step hK k
theorem x_i2c {x : Int32} (hK : K[i]? = some (aO 6 0 2)) (k : EX g mbOf (Ev g d) I K Qr Qx nb w uc us (i + 1) lo (.int (x.toUInt32 % 65536).toInt32 :: st)) : EX g mbOf (Ev g d) I K Qr Qx nb w uc us i lo (.int x :: st) := x_step hK k
theorem x_neg {x : Int32} (hK : K[i]? = some (aO 6 0 3)) (k : EX g mbOf (Ev g d) I K Qr Qx nb w uc us (i + 1) lo (.int (-x) :: st)) : EX g mbOf (Ev g d) I K Qr Qx nb w uc us i lo (.int x :: st) := x_step hK k
theorem x_ladd {x y : Int64} (hK : K[i]? = some (aO 8 0 0)) (k : EX g mbOf (Ev g d) I K Qr Qx nb w uc us (i + 1) lo (.long (x + y) :: st)) : EX g mbOf (Ev g d) I K Qr Qx nb w uc us i lo (.long y :: .long x :: st) := x_step hK k
theorem x_lsub {x y : Int64} (hK : K[i]? = some (aO 8 0 1)) (k : EX g mbOf (Ev g d) I K Qr Qx nb w uc us (i + 1) lo (.long (x - y) :: st)) : EX g mbOf (Ev g d) I K Qr Qx nb w uc us i lo (.long y :: .long x :: st) := x_step hK k
theorem x_lmul {x y : Int64} (hK : K[i]? = some (aO 8 0 2)) (k : EX g mbOf (Ev g d) I K Qr Qx nb w uc us (i + 1) lo (.long (x * y) :: st)) : EX g mbOf (Ev g d) I K Qr Qx nb w uc us i lo (.long y :: .long x :: st) := x_step hK k
theorem x_lor {x y : Int64} (hK : K[i]? = some (aO 8 0 3)) (k : EX g mbOf (Ev g d) I K Qr Qx nb w uc us (i + 1) lo (.long (x ||| y) :: st)) : EX g mbOf (Ev g d) I K Qr Qx nb w uc us i lo (.long y :: .long x :: st) := x_step hK k
theorem x_ldiv {x y : Int64} (hK : K[i]? = some (aO 9 0 0)) (hy : ¬ y = 0) (k : EX g mbOf (Ev g d) I K Qr Qx nb w uc us (i + 1) lo (.long (x / y) :: st)) : EX g mbOf (Ev g d) I K Qr Qx nb w uc us i lo (.long y :: .long x :: st) := x_step hK ⟨hy, k⟩
theorem x_lrem {x y : Int64} (hK : K[i]? = some (aO 9 0 1)) (hy : ¬ y = 0) (k : EX g mbOf (Ev g d) I K Qr Qx nb w uc us (i + 1) lo (.long (x - x / y * y) :: st)) : EX g mbOf (Ev g d) I K Qr Qx nb w uc us i lo (.long y :: .long x :: st) := x_step hK ⟨hy, k⟩
theorem x_lcmp {x y : Int64} (hK : K[i]? = some (aO 10 0 0)) (k : EX g mbOf (Ev g d) I K Qr Qx nb w uc us (i + 1) lo (.int (lg_cmp x y) :: st)) : EX g mbOf (Ev g d) I K Qr Qx nb w uc us i lo (.long y :: .long x :: st) := x_step hK k
theorem x_lshl {x : Int64} {y : Int32} (hK : K[i]? = some (aO 11 0 0)) (k : EX g mbOf (Ev g d) I K Qr Qx nb w uc us (i + 1) lo (.long (x <<< (y.toInt64 &&& 63)) :: st)) : EX g mbOf (Ev g d) I K Qr Qx nb w uc us i lo (.int y :: .long x :: st) := x_step hK k
theorem x_dup {v : Value} (hK : K[i]? = some (aO 12 0 0)) (h : v.category = 1) (k : EX g mbOf (Ev g d) I K Qr Qx nb w uc us (i + 1) lo (v :: v :: st)) : EX g mbOf (Ev g d) I K Qr Qx nb w uc us i lo (v :: st) := x_step hK ⟨h, k⟩
theorem x_dup2 {v u : Value} (hK : K[i]? = some (aO 12 0 1)) (h : v.category = 1) (h2 : u.category = 1) (k : EX g mbOf (Ev g d) I K Qr Qx nb w uc us (i + 1) lo (v :: u :: v :: u :: st)) : EX g mbOf (Ev g d) I K Qr Qx nb w uc us i lo (v :: u :: st) := x_step hK ⟨h, h2, k⟩
theorem x_pop {v : Value} (hK : K[i]? = some (aO 12 0 2)) (h : v.category = 1) (k : EX g mbOf (Ev g d) I K Qr Qx nb w uc us (i + 1) lo (st)) : EX g mbOf (Ev g d) I K Qr Qx nb w uc us i lo (v :: st) := x_step hK ⟨h, k⟩
theorem x_ifeq {a : Nat} {x : Int32} (hK : K[i]? = some (aO 15 a 0)) (kt : x = 0 → EX g mbOf (Ev g d) I K Qr Qx nb w uc us a lo st) (kf : ¬ x = 0 → EX g mbOf (Ev g d) I K Qr Qx nb w uc us (i + 1) lo st) : EX g mbOf (Ev g d) I K Qr Qx nb w uc us i lo (.int x :: st) := x_step hK ⟨fun h => kt h, fun h => kf h⟩
theorem x_iceq {a : Nat} {x y : Int32} (hK : K[i]? = some (aO 16 a 0)) (kt : x = y → EX g mbOf (Ev g d) I K Qr Qx nb w uc us a lo st) (kf : ¬ x = y → EX g mbOf (Ev g d) I K Qr Qx nb w uc us (i + 1) lo st) : EX g mbOf (Ev g d) I K Qr Qx nb w uc us i lo (.int y :: .int x :: st) := x_step hK ⟨fun h => kt h, fun h => kf h⟩
theorem x_ifne {a : Nat} {x : Int32} (hK : K[i]? = some (aO 15 a 1)) (kt : ¬ x = 0 → EX g mbOf (Ev g d) I K Qr Qx nb w uc us a lo st) (kf : x = 0 → EX g mbOf (Ev g d) I K Qr Qx nb w uc us (i + 1) lo st) : EX g mbOf (Ev g d) I K Qr Qx nb w uc us i lo (.int x :: st) := x_step hK ⟨fun h => kt h, fun h => kf (Classical.byContradiction h)⟩
theorem x_icne {a : Nat} {x y : Int32} (hK : K[i]? = some (aO 16 a 1)) (kt : ¬ x = y → EX g mbOf (Ev g d) I K Qr Qx nb w uc us a lo st) (kf : x = y → EX g mbOf (Ev g d) I K Qr Qx nb w uc us (i + 1) lo st) : EX g mbOf (Ev g d) I K Qr Qx nb w uc us i lo (.int y :: .int x :: st) := x_step hK ⟨fun h => kt h, fun h => kf (Classical.byContradiction h)⟩
theorem x_iflt {a : Nat} {x : Int32} (hK : K[i]? = some (aO 15 a 2)) (kt : x < 0 → EX g mbOf (Ev g d) I K Qr Qx nb w uc us a lo st) (kf : ¬ x < 0 → EX g mbOf (Ev g d) I K Qr Qx nb w uc us (i + 1) lo st) : EX g mbOf (Ev g d) I K Qr Qx nb w uc us i lo (.int x :: st) := x_step hK ⟨fun h => kt h, fun h => kf h⟩
theorem x_iclt {a : Nat} {x y : Int32} (hK : K[i]? = some (aO 16 a 2)) (kt : x < y → EX g mbOf (Ev g d) I K Qr Qx nb w uc us a lo st) (kf : ¬ x < y → EX g mbOf (Ev g d) I K Qr Qx nb w uc us (i + 1) lo st) : EX g mbOf (Ev g d) I K Qr Qx nb w uc us i lo (.int y :: .int x :: st) := x_step hK ⟨fun h => kt h, fun h => kf h⟩
theorem x_ifge {a : Nat} {x : Int32} (hK : K[i]? = some (aO 15 a 3)) (kt : 0 ≤ x → EX g mbOf (Ev g d) I K Qr Qx nb w uc us a lo st) (kf : ¬ 0 ≤ x → EX g mbOf (Ev g d) I K Qr Qx nb w uc us (i + 1) lo st) : EX g mbOf (Ev g d) I K Qr Qx nb w uc us i lo (.int x :: st) := x_step hK ⟨fun h => kt h, fun h => kf h⟩
theorem x_icge {a : Nat} {x y : Int32} (hK : K[i]? = some (aO 16 a 3)) (kt : y ≤ x → EX g mbOf (Ev g d) I K Qr Qx nb w uc us a lo st) (kf : ¬ y ≤ x → EX g mbOf (Ev g d) I K Qr Qx nb w uc us (i + 1) lo st) : EX g mbOf (Ev g d) I K Qr Qx nb w uc us i lo (.int y :: .int x :: st) := x_step hK ⟨fun h => kt h, fun h => kf h⟩
theorem x_ifgt {a : Nat} {x : Int32} (hK : K[i]? = some (aO 15 a 4)) (kt : 0 < x → EX g mbOf (Ev g d) I K Qr Qx nb w uc us a lo st) (kf : ¬ 0 < x → EX g mbOf (Ev g d) I K Qr Qx nb w uc us (i + 1) lo st) : EX g mbOf (Ev g d) I K Qr Qx nb w uc us i lo (.int x :: st) := x_step hK ⟨fun h => kt h, fun h => kf h⟩
theorem x_icgt {a : Nat} {x y : Int32} (hK : K[i]? = some (aO 16 a 4)) (kt : y < x → EX g mbOf (Ev g d) I K Qr Qx nb w uc us a lo st) (kf : ¬ y < x → EX g mbOf (Ev g d) I K Qr Qx nb w uc us (i + 1) lo st) : EX g mbOf (Ev g d) I K Qr Qx nb w uc us i lo (.int y :: .int x :: st) := x_step hK ⟨fun h => kt h, fun h => kf h⟩
theorem x_ifle {a : Nat} {x : Int32} (hK : K[i]? = some (aO 15 a 5)) (kt : x ≤ 0 → EX g mbOf (Ev g d) I K Qr Qx nb w uc us a lo st) (kf : ¬ x ≤ 0 → EX g mbOf (Ev g d) I K Qr Qx nb w uc us (i + 1) lo st) : EX g mbOf (Ev g d) I K Qr Qx nb w uc us i lo (.int x :: st) := x_step hK ⟨fun h => kt h, fun h => kf h⟩
theorem x_icle {a : Nat} {x y : Int32} (hK : K[i]? = some (aO 16 a 5)) (kt : x ≤ y → EX g mbOf (Ev g d) I K Qr Qx nb w uc us a lo st) (kf : ¬ x ≤ y → EX g mbOf (Ev g d) I K Qr Qx nb w uc us (i + 1) lo st) : EX g mbOf (Ev g d) I K Qr Qx nb w uc us i lo (.int y :: .int x :: st) := x_step hK ⟨fun h => kt h, fun h => kf h⟩
theorem x_go {a : Nat} (hK : K[i]? = some (aO 17 a 0)) (k : EX g mbOf (Ev g d) I K Qr Qx nb w uc us a lo (st)) : EX g mbOf (Ev g d) I K Qr Qx nb w uc us i lo (st) := x_step hK k
theorem x_sw {a b : Nat} {l : List Nat} {x : Int32} (hK : K[i]? = some (aT a b l)) (kd : (x.toInt < b ∨ b + l.length ≤ x.toInt) → EX g mbOf (Ev g d) I K Qr Qx nb w uc us a lo st) (kj : ∀ (j t : Nat), l[j]? = some t → x.toInt = b + j → EX g mbOf (Ev g d) I K Qr Qx nb w uc us t lo st) : EX g mbOf (Ev g d) I K Qr Qx nb w uc us i lo (.int x :: st) := x_step hK ⟨kd, kj⟩
theorem x_get {a b q : Nat} {fs : List Value} {v : Value} (hK : K[i]? = some (aO 19 a b)) (h : aAt w q (.inr (a, fs))) (hf : fs[b]? = some v) (k : EX g mbOf (Ev g d) I K Qr Qx nb w uc us (i + 1) lo (v :: st)) : EX g mbOf (Ev g d) I K Qr Qx nb w uc us i lo (.ref q :: st) := x_step hK ⟨fs, v, h, hf, k⟩
theorem x_put {a b q : Nat} {fs fs' : List Value} {v : Value} (hK : K[i]? = some (aO 20 a b)) (h : aAt w q (.inr (a, fs))) (hb : b < fs.length) (hn : narrow (ftyA a b) v = v) (hf : fits (ftyA a b) v = true) (hs : fs.set b v = fs') (k : EX g mbOf (Ev g d) I K Qr Qx nb (aUp w q (.inr (a, fs'))) uc us (i + 1) lo (st)) : EX g mbOf (Ev g d) I K Qr Qx nb w uc us i lo (v :: .ref q :: st) := x_step hK ⟨fs, h, hb, hn, hf, by subst hs; exact k⟩
theorem x_putF {a b q : Nat} {fs fs' : List Value} {v : Value} (hK : K[i]? = some (aO 21 a b)) (h : aAt w q (.inr (a, fs))) (hb : b < fs.length) (hn : narrow (ftyA a b) v = v) (hf : fits (ftyA a b) v = true) (hs : fs.set b v = fs') (k : EX g mbOf (Ev g d) I K Qr Qx nb (aUp w q (.inr (a, fs'))) uc us (i + 1) lo (st)) : EX g mbOf (Ev g d) I K Qr Qx nb w uc us i lo (v :: .ref q :: st) := x_step hK ⟨fs, h, hb, hn, hf, by subst hs; exact k⟩
theorem x_len {q t n : Nat} {a} (hK : K[i]? = some (aO 22 0 0)) (h : aAt w q (.inl (t, n, a))) (ht : t < nTy) (k : EX g mbOf (Ev g d) I K Qr Qx nb w uc us (i + 1) lo (.int (Int32.ofNat n) :: st)) : EX g mbOf (Ev g d) I K Qr Qx nb w uc us i lo (.ref q :: st) := x_step hK ⟨n, Or.inl ⟨t, a, h, ht⟩, k⟩
theorem x_lenF {q t n : Nat} {f : Nat → Int32} (hK : K[i]? = some (aO 22 0 0)) (h : FB ≤ q) (ht : g.1 (q - FB) = some (t, n, f)) (k : EX g mbOf (Ev g d) I K Qr Qx nb w uc us (i + 1) lo (.int (Int32.ofNat n) :: st)) : EX g mbOf (Ev g d) I K Qr Qx nb w uc us i lo (.ref q :: st) := x_step hK ⟨n, Or.inr ⟨t, f, h, ht⟩, k⟩
theorem x_ia {q n : Nat} {f : Nat → Int32} {j : Int32} (hK : K[i]? = some (aO 23 0 0)) (h : aAt w q (.inl (0, n, .inl f))) (hj : vp_in j n) (k : EX g mbOf (Ev g d) I K Qr Qx nb w uc us (i + 1) lo (.int (f j.toNatClampNeg) :: st)) : EX g mbOf (Ev g d) I K Qr Qx nb w uc us i lo (.int j :: .ref q :: st) := x_step hK ⟨0, n, f, Or.inl h, rfl, hj, k⟩
theorem x_iaF {q n : Nat} {f : Nat → Int32} {j : Int32} (hK : K[i]? = some (aO 23 0 0)) (h : FB ≤ q) (ht : g.1 (q - FB) = some (0, n, f)) (hj : vp_in j n) (k : EX g mbOf (Ev g d) I K Qr Qx nb w uc us (i + 1) lo (.int (f j.toNatClampNeg) :: st)) : EX g mbOf (Ev g d) I K Qr Qx nb w uc us i lo (.int j :: .ref q :: st) := x_step hK ⟨0, n, f, Or.inr ⟨h, ht⟩, rfl, hj, k⟩
theorem x_ias {q n : Nat} {f : Nat → Int32} {j x : Int32} (hK : K[i]? = some (aO 24 0 0)) (h : aAt w q (.inl (0, n, .inl f))) (hj : vp_in j n) (k : EX g mbOf (Ev g d) I K Qr Qx nb (aUp w q (.inl (0, n, .inl (upd f j.toNatClampNeg x)))) uc us (i + 1) lo (st)) : EX g mbOf (Ev g d) I K Qr Qx nb w uc us i lo (.int x :: .int j :: .ref q :: st) := x_step hK ⟨0, n, f, h, rfl, hj, k⟩
theorem x_ba {q n : Nat} {f : Nat → Int32} {j : Int32} (hK : K[i]? = some (aO 25 0 0)) (h : aAt w q (.inl (2, n, .inl f))) (hj : vp_in j n) (k : EX g mbOf (Ev g d) I K Qr Qx nb w uc us (i + 1) lo (.int (f j.toNatClampNeg) :: st)) : EX g mbOf (Ev g d) I K Qr Qx nb w uc us i lo (.int j :: .ref q :: st) := x_step hK ⟨2, n, f, Or.inl h, Or.inl rfl, hj, k⟩
theorem x_bas {q n : Nat} {f : Nat → Int32} {j x : Int32} (hK : K[i]? = some (aO 26 0 0)) (h : aAt w q (.inl (2, n, .inl f))) (hj : vp_in j n) (k : EX g mbOf (Ev g d) I K Qr Qx nb (aUp w q (.inl (2, n, .inl (upd f j.toNatClampNeg (vp_nar .byte x))))) uc us (i + 1) lo (st)) : EX g mbOf (Ev g d) I K Qr Qx nb w uc us i lo (.int x :: .int j :: .ref q :: st) := x_step hK ⟨2, n, f, h, Or.inl rfl, hj, k⟩
theorem x_za {q n : Nat} {f : Nat → Int32} {j : Int32} (hK : K[i]? = some (aO 25 0 0)) (h : aAt w q (.inl (3, n, .inl f))) (hj : vp_in j n) (k : EX g mbOf (Ev g d) I K Qr Qx nb w uc us (i + 1) lo (.int (f j.toNatClampNeg) :: st)) : EX g mbOf (Ev g d) I K Qr Qx nb w uc us i lo (.int j :: .ref q :: st) := x_step hK ⟨3, n, f, Or.inl h, Or.inr rfl, hj, k⟩
theorem x_zas {q n : Nat} {f : Nat → Int32} {j x : Int32} (hK : K[i]? = some (aO 26 0 0)) (h : aAt w q (.inl (3, n, .inl f))) (hj : vp_in j n) (k : EX g mbOf (Ev g d) I K Qr Qx nb (aUp w q (.inl (3, n, .inl (upd f j.toNatClampNeg (vp_nar .boolean x))))) uc us (i + 1) lo (st)) : EX g mbOf (Ev g d) I K Qr Qx nb w uc us i lo (.int x :: .int j :: .ref q :: st) := x_step hK ⟨3, n, f, h, Or.inr rfl, hj, k⟩
theorem x_baF {q n : Nat} {f : Nat → Int32} {j : Int32} (hK : K[i]? = some (aO 25 0 0)) (h : FB ≤ q) (ht : g.1 (q - FB) = some (2, n, f)) (hj : vp_in j n) (k : EX g mbOf (Ev g d) I K Qr Qx nb w uc us (i + 1) lo (.int (f j.toNatClampNeg) :: st)) : EX g mbOf (Ev g d) I K Qr Qx nb w uc us i lo (.int j :: .ref q :: st) := x_step hK ⟨2, n, f, Or.inr ⟨h, ht⟩, Or.inl rfl, hj, k⟩
theorem x_la {q n : Nat} {f : Nat → Int64} {j : Int32} (hK : K[i]? = some (aO 27 0 0)) (h : aAt w q (.inl (1, n, .inr (.inl f)))) (hj : vp_in j n) (k : EX g mbOf (Ev g d) I K Qr Qx nb w uc us (i + 1) lo (.long (f j.toNatClampNeg) :: st)) : EX g mbOf (Ev g d) I K Qr Qx nb w uc us i lo (.int j :: .ref q :: st) := x_step hK ⟨n, f, h, hj, k⟩
theorem x_las {q n : Nat} {f : Nat → Int64} {j : Int32} {x : Int64} (hK : K[i]? = some (aO 28 0 0)) (h : aAt w q (.inl (1, n, .inr (.inl f)))) (hj : vp_in j n) (k : EX g mbOf (Ev g d) I K Qr Qx nb (aUp w q (.inl (1, n, .inr (.inl (vp_updL f j.toNatClampNeg x))))) uc us (i + 1) lo (st)) : EX g mbOf (Ev g d) I K Qr Qx nb w uc us i lo (.long x :: .int j :: .ref q :: st) := x_step hK ⟨n, f, h, hj, k⟩
theorem x_aa {q n t y : Nat} {f : Nat → Option Nat} {j : Int32} (hK : K[i]? = some (aO 29 0 0)) (h : aAt w q (.inl (t, n, .inr (.inr (.inr (.inr f)))))) (ht : 4 ≤ t ∧ t < nTy) (hj : vp_in j n) (hy : f j.toNatClampNeg = some y) (k : EX g mbOf (Ev g d) I K Qr Qx nb w uc us (i + 1) lo (.ref y :: st)) : EX g mbOf (Ev g d) I K Qr Qx nb w uc us i lo (.int j :: .ref q :: st) := x_step hK ⟨t, n, f, y, h, ht, hj, hy, k⟩
theorem x_aas {q n t y ci : Nat} {C : String} {vs : List Value} {f : Nat → Option Nat} {j : Int32} (hK : K[i]? = some (aO 30 0 0)) (h : aAt w q (.inl (t, n, .inr (.inr (.inr (.inr f)))))) (ht : 4 ≤ t ∧ t < nTy) (hC : tyT t = .object C) (hc : (vwCl[ci]?).map (fun x => x.1) = some C) (hy : aAt w y (.inr (ci, vs))) (hj : vp_in j n) (k : EX g mbOf (Ev g d) I K Qr Qx nb (aUp w q (.inl (t, n, .inr (.inr (.inr (.inr (va_up f j.toNatClampNeg (some y)))))))) uc us (i + 1) lo (st)) : EX g mbOf (Ev g d) I K Qr Qx nb w uc us i lo (.ref y :: .int j :: .ref q :: st) := x_step hK ⟨t, n, f, ci, vs, C, h, ht, hC, hc, hy, hj, k⟩
theorem x_new {a : Nat} (hK : K[i]? = some (aO 31 a 0)) (h1 : w.1 < N0) (h2 : w.1 = nb + uc) (h3 : uc + 1 ≤ I.1) (h4 : us + nfA a ≤ I.2.1) (k : EX g mbOf (Ev g d) I K Qr Qx nb (aNew w (.inr (a, dfA a))) (uc + 1) (us + nfA a) (i + 1) lo (.ref w.1 :: st)) : EX g mbOf (Ev g d) I K Qr Qx nb w uc us i lo (st) := x_step hK ⟨h1, h2, h3, h4, k⟩
theorem x_newa {t : Nat} {z : Int32} {e : va_E} (hK : K[i]? = some (aO 32 t 0)) (hz : ¬ z < 0) (hz2 : z.toNatClampNeg ≤ 1000000) (h1 : w.1 < N0) (h2 : w.1 = nb + uc) (h3 : uc + 1 ≤ I.1) (h4 : us + z.toNatClampNeg ≤ I.2.1)
    (he : (.inl (t, z.toNatClampNeg, match (generalizing := false) t with
    | 0 => .inl (fun _ => 0)
    | 1 => .inr (.inl (fun _ => 0))
    | 2 => .inl (fun _ => 0)
    | 3 => .inl (fun _ => 0)
    | _ => .inr (.inr (.inr (.inr (fun _ => none))))) : va_E) = e) (k : EX g mbOf (Ev g d) I K Qr Qx nb (aNew w e) (uc + 1) (us + z.toNatClampNeg) (i + 1) lo (.ref w.1 :: st)) : EX g mbOf (Ev g d) I K Qr Qx nb w uc us i lo (.int z :: st) := x_step hK ⟨hz, hz2, h1, h2, h3, h4, by rw [← he] at k; exact k⟩
/-- a call, st0 the whole stack: its arguments in the order of the method, then the rest -/
theorem x_invO {mid n : Nat} {l : List Nat} {as rest st0 : List Value} {Qr' : Option Value → aW → Prop} {Qx' : String → aW → Prop} (hK : K[i]? = some (aV mid n l)) (hs : st0 = as.reverse ++ rest) (hn : as.length = n) (hst : stW rest ≤ 8 ∨ (stW rest ≤ 12 ∧ (mid = 221 ∨ mid = 222))) (hw : w.1 = N0 ∨ w.1 = nb + uc) (hr : rcvA g l w as) (h1 : uc + (mbOf mid).1 ≤ I.1) (h2 : us + (mbOf mid).2 ≤ I.2.1)
    (hc : Ev g d mid as w Qr' Qx') (kr : ∀ v w', Qr' v w' → EX g mbOf (Ev g d) I K Qr Qx nb w' (uc + (mbOf mid).1) (us + (mbOf mid).2) (i + 1) lo (v.toList ++ rest))
    (kx : ∀ E w', Qx' E w' → match hndA I.2.2.2 E i with
      | some h => ∃ a vv ll, K[h]? = some (45, a, 0, vv, ll) ∧ a < lo.length ∧ EX g mbOf (Ev g d) I K Qr Qx nb w' (uc + (mbOf mid).1) (us + (mbOf mid).2) (h + 1) ((clr lo a).set a none) []
      | none => I.2.2.2 = [] ∧ Qx E w') : EX g mbOf (Ev g d) I K Qr Qx nb w uc us i lo st0 := by
  subst hs
  have e1 : (as.reverse ++ rest).take n = as.reverse := by rw [← hn, ← List.length_reverse, List.take_left']; rfl
  have e2 : (as.reverse ++ rest).drop n = rest := by rw [← hn, ← List.length_reverse, List.drop_left']; rfl
  refine x_step hK ⟨?_, ?_, hw, ?_, h1, h2, ?_⟩
  · show n ≤ _
    rw [List.length_append, List.length_reverse]; omega
  · dsimp only [aV]
    rw [e2]; exact hst
  · dsimp only [aV]
    rw [e1, List.reverse_reverse]; exact hr
  · dsimp only [aV]
    rw [e1, e2, List.reverse_reverse]
    exact Ev_mono g d _ _ _ _ _ _ _ kr kx hc
theorem x_inv {mid n : Nat} {l : List Nat} {as rest st0 : List Value} {Qr' : Option Value → aW → Prop} {Qx' : String → aW → Prop} (hK : K[i]? = some (aV mid n l)) (hs : st0 = as.reverse ++ rest) (hn : as.length = n) (hst : stW rest ≤ 8) (hw : w.1 = N0 ∨ w.1 = nb + uc) (hr : rcvA g l w as) (h1 : uc + (mbOf mid).1 ≤ I.1) (h2 : us + (mbOf mid).2 ≤ I.2.1)
    (hc : Ev g d mid as w Qr' Qx') (kr : ∀ v w', Qr' v w' → EX g mbOf (Ev g d) I K Qr Qx nb w' (uc + (mbOf mid).1) (us + (mbOf mid).2) (i + 1) lo (v.toList ++ rest))
    (kx : ∀ E w', Qx' E w' → match hndA I.2.2.2 E i with
      | some h => ∃ a vv ll, K[h]? = some (45, a, 0, vv, ll) ∧ a < lo.length ∧ EX g mbOf (Ev g d) I K Qr Qx nb w' (uc + (mbOf mid).1) (us + (mbOf mid).2) (h + 1) ((clr lo a).set a none) []
      | none => I.2.2.2 = [] ∧ Qx E w') : EX g mbOf (Ev g d) I K Qr Qx nb w uc us i lo st0 :=
  x_invO hK hs hn (Or.inl hst) hw hr h1 h2 hc kr kx
theorem x_cpy {n dp sp : Int32} {q0 q1 n0 n1 : Nat} {f f1 : Nat → Int32} (hK : K[i]? = some (aO 36 0 0)) (h0 : aAt w q0 (.inl (0, n0, .inl f))) (h1 : aAt w q1 (.inl (0, n1, .inl f1))) (hs : stW st ≤ 8) (a1 : ¬ sp < 0) (a2 : ¬ dp < 0) (a3 : ¬ n < 0) (a4 : sp.toNatClampNeg + n.toNatClampNeg ≤ n0) (a5 : dp.toNatClampNeg + n.toNatClampNeg ≤ n1) (k : EX g mbOf (Ev g d) I K Qr Qx nb (aUp w q1 (.inl (0, n1, .inl (va_cpy f f1 sp.toNatClampNeg dp.toNatClampNeg n.toNatClampNeg)))) uc us (i + 1) lo (st)) : EX g mbOf (Ev g d) I K Qr Qx nb w uc us i lo (.int n :: .int dp :: .ref q1 :: .int sp :: .ref q0 :: st) := x_step hK ⟨n0, f, n1, f1, h0, h1, hs, a1, a2, a3, a4, a5, k⟩
theorem x_obj {q : Nat} (hK : K[i]? = some (aO 37 0 0)) (hs : stW st ≤ 8) (k : EX g mbOf (Ev g d) I K Qr Qx nb w uc us (i + 1) lo (st)) : EX g mbOf (Ev g d) I K Qr Qx nb w uc us i lo (.ref q :: st) := x_step hK ⟨hs, k⟩
theorem x_thr {a : Nat} (hK : K[i]? = some (aO 38 a 0)) (h0 : w.1 = N0) (h1 : I.2.2.2 = []) (h2 : stW st ≤ 8) (h3 : uc + 1 ≤ I.1) (h4 : us + 6 ≤ I.2.1) (k : Qx (exN a) w) : EX g mbOf (Ev g d) I K Qr Qx nb w uc us i lo st := x_step hK ⟨h0, h1, h2, h3, h4, k⟩
theorem x_ret {x : Int32} {ty : FieldType} (hK : K[i]? = some (aO 39 0 0)) (h1 : uc ≤ I.1) (h2 : us ≤ I.2.1) (ht : I.2.2.1 = some ty) (hn : narrow ty (.int x) = .int x) (hp : refKind ty = false) (hl : ty ≠ .long) (k : Qr (some (.int x)) w) : EX g mbOf (Ev g d) I K Qr Qx nb w uc us i lo [.int x] := x_step hK ⟨h1, h2, ⟨ty, ht, hn, hp, hl⟩, k⟩
theorem x_reti {x : Int32} (hK : K[i]? = some (aO 39 0 0)) (h1 : uc ≤ I.1) (h2 : us ≤ I.2.1) (ht : I.2.2.1 = some .int) (k : Qr (some (.int x)) w) : EX g mbOf (Ev g d) I K Qr Qx nb w uc us i lo [.int x] := x_ret hK h1 h2 ht rfl rfl (fun h => by cases h) k
theorem x_retz {x : Int32} (hK : K[i]? = some (aO 39 0 0)) (h1 : uc ≤ I.1) (h2 : us ≤ I.2.1) (ht : I.2.2.1 = some .boolean) (hn : x &&& 1 = x) (k : Qr (some (.int x)) w) : EX g mbOf (Ev g d) I K Qr Qx nb w uc us i lo [.int x] := x_ret hK h1 h2 ht (by show Value.int (x &&& 1) = _; rw [hn]) rfl (fun h => by cases h) k
theorem x_reta {q : Nat} {C : String} (hK : K[i]? = some (aO 39 0 1)) (h1 : uc ≤ I.1) (h2 : us ≤ I.2.1) (ht : I.2.2.1 = some (.object C)) (k : Qr (some (.ref q)) w) : EX g mbOf (Ev g d) I K Qr Qx nb w uc us i lo [.ref q] := x_step hK ⟨h1, h2, ⟨C, ht⟩, k⟩
theorem x_retl {x : Int64} (hK : K[i]? = some (aO 39 0 2)) (h1 : uc ≤ I.1) (h2 : us ≤ I.2.1) (ht : I.2.2.1 = some .long) (k : Qr (some (.long x)) w) : EX g mbOf (Ev g d) I K Qr Qx nb w uc us i lo [.long x] := x_step hK ⟨h1, h2, ht, k⟩
theorem x_retv (hK : K[i]? = some (aO 39 0 3)) (h1 : uc ≤ I.1) (h2 : us ≤ I.2.1) (ht : I.2.2.1 = none) (k : Qr none w) : EX g mbOf (Ev g d) I K Qr Qx nb w uc us i lo [] := x_step hK ⟨h1, h2, ht, k⟩
theorem x_str {a : Nat} (hK : K[i]? = some (aO 40 a 0)) (k : EX g mbOf (Ev g d) I K Qr Qx nb w uc us (i + 1) lo (.ref (FB + a) :: st)) : EX g mbOf (Ev g d) I K Qr Qx nb w uc us i lo (st) := x_step hK k
theorem x_gst {a : Nat} {v : Value} (hK : K[i]? = some (aO 43 a 0)) (hv : g.2 a = v) (k : EX g mbOf (Ev g d) I K Qr Qx nb w uc us (i + 1) lo (v :: st)) : EX g mbOf (Ev g d) I K Qr Qx nb w uc us i lo (st) := x_step hK (by subst hv; exact k)
theorem x_gs0 {q : Nat} (hK : K[i]? = some (aO 46 0 0)) (h1 : FB ≤ q) (h2 : q < FB + 100) (h3 : (g.1 (q - FB + 100)).isSome = true) (k : EX g mbOf (Ev g d) I K Qr Qx nb w uc us (i + 1) lo (.ref (q + 100) :: st)) : EX g mbOf (Ev g d) I K Qr Qx nb w uc us i lo (.ref q :: st) := x_step hK ⟨h1, h2, h3, k⟩
theorem x_gs1 {q : Nat} (hK : K[i]? = some (aO 46 0 1)) (h1 : FB ≤ q) (h2 : q < FB + 100) (h3 : (g.1 (q - FB + 100)).isSome = true) (k : EX g mbOf (Ev g d) I K Qr Qx nb w uc us (i + 1) lo (.int 0 :: st)) : EX g mbOf (Ev g d) I K Qr Qx nb w uc us i lo (.ref q :: st) := x_step hK ⟨h1, h2, h3, k⟩
/-- a new name for what lies on top -/
theorem x_nm {x : Int32} (k : ∀ y : Int32, y = x → EX g mbOf (Ev g d) I K Qr Qx nb w uc us i lo (.int y :: st)) : EX g mbOf (Ev g d) I K Qr Qx nb w uc us i lo (.int x :: st) := k x rfl
theorem x_eq {x y : Int32} (h : x = y) (k : EX g mbOf (Ev g d) I K Qr Qx nb w uc us i lo (.int y :: st)) : EX g mbOf (Ev g d) I K Qr Qx nb w uc us i lo (.int x :: st) := by rw [h]; exact k
theorem x_lo {lo' : List (Option Value)} (h : lo = lo') (k : EX g mbOf (Ev g d) I K Qr Qx nb w uc us i lo' st) : EX g mbOf (Ev g d) I K Qr Qx nb w uc us i lo st := by rw [h]; exact k
end RULES
