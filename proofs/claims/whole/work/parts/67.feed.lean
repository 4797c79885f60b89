/-! feed and like; mset_ -/
def fv5 (o : Nat → Int32) (a b c e h : Int32) : Nat → Int32 := upd (upd (upd (upd (upd o 0 a) 1 b) 2 c) 3 e) 4 h
def byF (fv : Nat → Int32) (k : Nat) : Int32 := vp_nar .byte ((fv (k / 4) >>> (nI (24 - 8 * (k % 4)) &&& 31)).toInt8.toInt32)
def fedF (t : Nat → Int32) (en : Nat) (fv : Nat → Int32) : Nat → Nat → Int32 := acc (fun k h => upd h (en + k) (byF fv k)) t
theorem rdF_rel {V : Nat → Int64} {D : Nat} : ∀ k b (s s' : rdS), s.1 = s'.1 → (∀ j, j < s.1 → s.2 j = s'.2 j) → (rdF V D k b s).1 = (rdF V D k b s').1 ∧ ∀ j, j < (rdF V D k b s).1 → (rdF V D k b s).2 j = (rdF V D k b s').2 j := by
  have hasE : ∀ (v : Int64) (r r' : Nat → Int64) n, (∀ j, j < n → r j = r' j) → hasR r v n = hasR r' v n := by
    intro v r r' n
    induction n with
    | zero => intro _; rfl
    | succ n ih =>
      intro h
      show (hasR r v n || (r n == v)) = (hasR r' v n || (r' n == v))
      rw [ih (fun j hj => h j (by omega)), h n (by omega)]
  have add : ∀ v (s s' : rdS), s.1 = s'.1 → (∀ j, j < s.1 → s.2 j = s'.2 j) → (addR v s).1 = (addR v s').1 ∧ ∀ j, j < (addR v s).1 → (addR v s).2 j = (addR v s').2 j := by
    intro v s s' h1 h2
    have e := hasE v s.2 s'.2 s.1 h2
    unfold addR
    rw [← h1, ← e]
    by_cases c : hasR s.2 v s.1 = true
    · rw [if_pos c, if_pos c]; exact ⟨h1, h2⟩
    · rw [if_neg c, if_neg c]
      refine ⟨rfl, fun j hj => ?_⟩
      show vp_updL s.2 s.1 v j = vp_updL s'.2 s.1 v j
      by_cases ej : j = s.1
      · subst ej; rw [pk_uLs, pk_uLs]
      · rw [pk_uLn ej, pk_uLn ej]
        exact h2 j (by have : j < s.1 + 1 := hj; omega)
  intro k
  induction k with
  | zero => intro b s s' h1 h2; exact ⟨h1, h2⟩
  | succ k ih =>
    intro b s s' h1 h2
    have a := add (V b) s s' h1 h2
    unfold rdF
    by_cases c : b = 0
    · rw [if_pos c, if_pos c]; exact a
    · rw [if_neg c, if_neg c]; exact ih _ _ _ a.1 a.2
/-- the readings of a card, by themselves -/
def rdL (f : Nat → Int32) (c : Nat) : rdS := readsF f c (fun _ => 0)
theorem reads_L {f : Nat → Int32} {c : Nat} {row : Nat → Int64} : (readsF f c row).1 = (rdL f c).1 ∧ ∀ j, j < (readsF f c row).1 → (readsF f c row).2 j = (rdL f c).2 j := rdF_rel _ _ _ _ rfl (fun j hj => absurd hj (Nat.not_lt_zero _))
/-- whether one of the first k pairs of readings is one and the same -/
def shB (r s : rdS) : Nat → Bool
  | 0 => false
  | k + 1 => shB r s k || (r.2 (k / s.1) == s.2 (k % s.1))
def likeS (f : Nat → Int32) (card : Nat) (n : Int32) : Nat → Nat → Nat ⊕ Int32 := fun c a => if c = card ∨ ¬ f (6607 + 26 * c + 2) < 0 ∨ shB (rdL f card) (rdL f c) ((rdL f card).1 * (rdL f c).1) = false then .inl a else if nI a = n then .inr (nI c) else .inl (a + 1)
def likeF (f : Nat → Int32) (nc card : Nat) (n : Int32) (c a : Nat) : Int32 := it nc (likeS f card n) (fun _ => -1) c a
section CALLS
variable {g : aG} {d : Nat} {w : aW} {m f : Nat → Int32} {A : Nat → Nat → Int32} {B : Nat → Nat → Int64}
theorem udA_at {A : Nat → Nat → Int32} {q : Nat} {h : Nat → Int32} : udA A q h q = h := if_pos rfl
theorem r_feed {a b c e h : Int32} {en : Nat} (h5 : m 5 = nI en) (hen : en ≤ 400) (hn : w.1 = N0) : Ev g (d + 1) 184 [.ref 1424, .int a, .int b, .int c, .int e, .int h] (rW w m f A B) (fun v w' => (400 < en + 20 ∧ v = some (.int (-1)) ∧ w' = rW w (upd m 0 0) f A B) ∨ (en + 20 ≤ 400 ∧ v = some (.int (nI (en + 20))) ∧ w' = rW w (upd (upd m 0 0) 5 (nI (en + 20))) f (udA (udA A 1428 (fv5 (A 1428) a b c e h)) 1427 (fedF (A 1427) en (fv5 (A 1428) a b c e h) 20)) B)) noX := by
  have h5' : upd m 0 0 5 = nI en := (pk_un (by decide)).trans h5
  refine ev_X11_feed ?_ (Nat.le_of_ble_eq_true rfl)
  refine x_lo (lo' := [some (.ref 1424), some (.int a), some (.int b), some (.int c), some (.int e), some (.int h), none]) rfl ?_
  refine x_al rfl rfl ?_
  refine x_c rfl ?_
  refine x_putM rfl hn rfl rfl rfl (mset_0 _ _) ?_
  refine x_al rfl rfl ?_
  refine x_get rfl (rw_md hn) (by exact rfl) ?_
  rw [h5']
  refine x_c rfl ?_
  refine x_addN (y := 20) rfl ?_
  refine x_c rfl ?_
  refine x_icleN (y := 400) rfl (by omega) (fun c1 => ?_) (fun c1 => ?_)
  rotate_left
  · refine x_c rfl ?_
    refine x_reti rfl (Nat.le_of_ble_eq_true rfl) (Nat.le_of_ble_eq_true rfl) rfl ?_
    exact Or.inl ⟨by omega, rfl, rfl⟩
  refine x_al rfl rfl ?_
  refine x_get rfl (rw_md hn) (by exact rfl) ?_
  refine x_c rfl ?_
  refine x_il rfl rfl ?_
  first | refine x_iasW (j := 0) rfl hn (by omega) ?_ | refine x_iasA (j := 0) rfl hn (by exact rfl) (by omega) ?_
  refine x_al rfl rfl ?_
  refine x_get rfl (rw_md hn) (by exact rfl) ?_
  refine x_c rfl ?_
  refine x_il rfl rfl ?_
  first | refine x_iasW (j := 1) rfl hn (by omega) ?_ | refine x_iasA (j := 1) rfl hn (by exact rfl) (by omega) ?_
  refine x_al rfl rfl ?_
  refine x_get rfl (rw_md hn) (by exact rfl) ?_
  refine x_c rfl ?_
  refine x_il rfl rfl ?_
  first | refine x_iasW (j := 2) rfl hn (by omega) ?_ | refine x_iasA (j := 2) rfl hn (by exact rfl) (by omega) ?_
  refine x_al rfl rfl ?_
  refine x_get rfl (rw_md hn) (by exact rfl) ?_
  refine x_c rfl ?_
  refine x_il rfl rfl ?_
  first | refine x_iasW (j := 3) rfl hn (by omega) ?_ | refine x_iasA (j := 3) rfl hn (by exact rfl) (by omega) ?_
  refine x_al rfl rfl ?_
  refine x_get rfl (rw_md hn) (by exact rfl) ?_
  refine x_c rfl ?_
  refine x_il rfl rfl ?_
  first | refine x_iasW (j := 4) rfl hn (by omega) ?_ | refine x_iasA (j := 4) rfl hn (by exact rfl) (by omega) ?_
  refine x_c rfl ?_
  refine x_is (lo' := [_, _, _, _, _, _, _]) rfl (Nat.le_of_ble_eq_true rfl) rfl ?_
  repeat rw [udA_udA]
  simp only [udA_at]
  rw [show upd (upd (upd (upd (upd (A 1428) 0 a) 1 b) 2 c) 3 e) 4 h = fv5 (A 1428) a b c e h from rfl]
  generalize fv5 (A 1428) a b c e h = fv
  have loop : ∀ k, k ≤ 20 → EX g mbOf (Ev g (d)) (infoOf 184) k_X11_feed (fun v w' => (400 < en + 20 ∧ v = some (.int (-1)) ∧ w' = rW w (upd m 0 0) f A B) ∨ (en + 20 ≤ 400 ∧ v = some (.int (nI (en + 20))) ∧ w' = rW w (upd (upd m 0 0) 5 (nI (en + 20))) f (udA (udA A 1428 fv) 1427 (fedF (A 1427) en fv 20)) B)) noX w.1 (rW w (upd m 0 0) f (udA (udA A 1428 fv) 1427 (fedF (A 1427) en fv k)) B) 0 0 38 [some (.ref 1424), some (.int a), some (.int b), some (.int c), some (.int e), some (.int h), some (.int (nI k))] [] := by
    refine downN 20 fun k hk ih => ?_
    refine x_il rfl rfl ?_
    refine x_c rfl ?_
    refine x_icgeN (y := 20) rfl (by omega) (fun c2 => ?_) (fun c2 => ?_)
    · refine x_al rfl rfl ?_
      refine x_dup rfl rfl ?_
      obtain rfl : k = 20 := by omega
      refine x_get rfl (rw_md hn) (by exact rfl) ?_
      rw [h5']
      refine x_c rfl ?_
      refine x_addN (y := 20) rfl ?_
      refine x_putM rfl hn rfl rfl rfl (mset_5 _ _) ?_
      refine x_al rfl rfl ?_
      refine x_get rfl (rw_md hn) (by exact rfl) ?_
      rw [pk_us]
      refine x_reti rfl (Nat.le_of_ble_eq_true rfl) (Nat.le_of_ble_eq_true rfl) rfl ?_
      exact Or.inr ⟨c1, rfl, rfl⟩
    refine x_al rfl rfl ?_
    refine x_get rfl (rw_md hn) (by exact rfl) ?_
    refine x_al rfl rfl ?_
    refine x_get rfl (rw_md hn) (by exact rfl) ?_
    rw [h5']
    refine x_il rfl rfl ?_
    refine x_addN rfl ?_
    refine x_al rfl rfl ?_
    refine x_get rfl (rw_md hn) (by exact rfl) ?_
    refine x_il rfl rfl ?_
    refine x_c rfl ?_
    refine x_divN (y := 4) rfl (by omega) ?_
    refine x_iaN rfl (by first | exact rw_md hn | exact rw_w hn | exact rw_A hn (by exact rfl) | exact rw_B2 hn | exact rw_B3 hn | assumption) (by omega) ?_
    refine x_c rfl ?_
    refine x_c rfl ?_
    refine x_il rfl rfl ?_
    refine x_c rfl ?_
    rw [show udA (udA A 1428 fv) 1427 (fedF (A 1427) en fv k) 1428 (k / 4) = fv (k / 4) from rfl]
    refine x_remN (y := 4) rfl (by omega) ?_
    refine x_mulN (x := 8) rfl ?_
    first | refine x_subN (x := 24) rfl (by omega) ?_ | refine x_sub rfl ?_
    refine x_shr rfl ?_
    refine x_i2b rfl ?_
    first | refine x_basA rfl hn (by exact rfl) (by omega) ?_ | refine x_zasA rfl hn (by exact rfl) (by omega) (by first | rfl | assumption) ?_
    refine x_inc1 (lo' := [_, _, _, _, _, _, _]) rfl rfl rfl ?_
    refine x_go rfl ?_
    rw [udA_udA, udA_at]
    exact ih c2
  have := loop 0 (by decide)
  rw [show udA (udA A 1428 fv) 1427 (fedF (A 1427) en fv 0) = udA A 1428 fv by
    funext q
    show (if q = 1427 then A 1427 else udA A 1428 fv q) = _
    split
    · rename_i e; subst e; rfl
    · rfl] at this
  exact this
end CALLS
