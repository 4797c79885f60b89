/-! the law's rules, segments and tails; cw_ -/
theorem segI {l s : List aI} {P n : Nat} (h : (l.drop P).take n = s) {j : Nat} {x : aI} (hj : s[j]? = some x) : l[P + j]? = some x := by
  subst h
  rw [List.getElem?_take] at hj
  split at hj
  · rw [List.getElem?_drop] at hj
    exact hj
  · cases hj
abbrev lawI : aInfo := (601024, 7293034, some .boolean, [])
abbrev LX (g : aG) (d : Nat) (W : aW) (uc us i : Nat) (lo : List (Option Value)) (st : List Value) : Prop := EX g mbOf (Ev g (d + 41)) lawI k_L_law (fun v _ => v = some (.int 1)) noX 0 W uc us i lo st
abbrev loL (c : Nat) (l5 l6 l7 : Option Value) : List (Option Value) := [some (.ref (FB + 300)), some (.ref 0), some (.ref 1424), some (.ref 1438), some (.int (nI (6 * c))), l5, l6, l7]
/-- how it goes on after a call -/
def GoT (g : aG) (d : Nat) (w : aW) (c U S : Nat) : Prop := ∀ W uc us l5 l6 l7, Gs w (c + 1) W → uc ≤ U → us ≤ S → LX g d W uc us 1899 (loL c l5 l6 l7) []
section LAW
variable {g : aG} {d : Nat} {W w : aW} {c n U S uc us i : Nat} {st : List Value} {s : Nat → Int32} {l5 l6 l7 : Option Value} {lo : List (Option Value)} {o : Nat → Int64} {F A : Nat → Nat → Int32} {L : Nat → Int64} {m f : Nat → Int32} {RA : Nat → Nat → Int32} {RB : Nat → Nat → Int64} {thr a : Int32}
theorem x_scr (k : Nat) {t : Nat} {x : Int32} (h0 : k_L_law[i]? = some (aO 0 0 1)) (h1 : k_L_law[i + 1]? = some (aO 0 4 0)) (h2 : k_L_law[i + 2]? = some (aC t (.int x))) (h3 : k_L_law[i + 3]? = some (aO 4 0 0)) (h4 : k_L_law[i + 4]? = some (aO 23 0 0)) (hx : x = nI k) (hg : g.1 300 = some (0, n, s)) (hc : 6 * c + 5 < n) (hn : n ≤ 3072) (hk : k ≤ 5) (kk : LX g d W uc us (i + 5) (loL c l5 l6 l7) (.int (s (6 * c + k)) :: st)) : LX g d W uc us i (loL c l5 l6 l7) st := by
  subst hx
  refine x_al h0 rfl ?_
  refine x_il h1 rfl ?_
  refine x_c h2 ?_
  refine x_addN h3 ?_
  refine x_iaF (n := n) (f := s) h4 (Nat.le_add_right _ _) (by rw [Nat.add_sub_cancel_left]; exact hg) (vp_in_nI (by omega) (by omega)) ?_
  rw [nI_clamp (by omega)]
  exact kk
theorem x_b01 {e b t t' : Nat} {x : Int32} (h0 : k_L_law[i]? = some (aO 15 e 0)) (h1 : k_L_law[i + 1]? = some (aC t (.int 1))) (h2 : k_L_law[i + 2]? = some (aO 17 b 0)) (h3 : k_L_law[e]? = some (aC t' (.int 0))) (hb : b = e + 1) (kk : LX g d W uc us (e + 1) lo (.int (bI (decide (¬ x = 0))) :: st)) : LX g d W uc us i lo (.int x :: st) := by
  subst hb
  refine x_ifeq h0 (fun h => ?_) (fun h => ?_)
  · refine x_c h3 ?_
    rw [show bI (decide (¬ x = 0)) = 0 from bI_f (fun h2 => h2 h)] at kk
    exact kk
  · refine x_c h1 ?_
    refine x_go h2 ?_
    rw [show bI (decide (¬ x = 0)) = 1 from bI_t h] at kk
    exact kk
def tlI (P : Nat) : List aI := [aO 1 6 0, aO 0 2 1, aV 177 1 [11], aO 0 5 0, aO 16 (P + 7) 0, aC 0 (.int 0), aO 39 0 0, aO 0 5 0, aO 15 (P + 18) 1, aO 0 3 1, aC 0 (.int 0), aO 27 0 0, aO 0 6 0, aO 6 0 0, aO 10 0 0, aO 15 (P + 18) 0, aC 0 (.int 0), aO 39 0 0, aO 17 1899 0]
def tlB (P : Nat) : List aI := [aO 1 6 0, aO 0 2 1, aV 177 1 [11], aO 0 5 0, aO 16 (P + 7) 0, aC 0 (.int 0), aO 39 0 0, aO 0 5 0, aO 15 (P + 21) 1, aO 0 3 1, aC 0 (.int 0), aO 27 0 0, aO 0 6 0, aO 15 (P + 16) 0, aC 3 (.long 1), aO 17 (P + 17) 0, aC 3 (.long 0), aO 10 0 0, aO 15 (P + 21) 0, aC 0 (.int 0), aO 39 0 0, aO 17 1899 0]
def tlL (P : Nat) : List aI := [aO 1 6 2, aO 0 2 1, aV 177 1 [11], aO 0 5 0, aO 16 (P + 7) 0, aC 0 (.int 0), aO 39 0 0, aO 0 5 0, aO 15 (P + 17) 1, aO 0 3 1, aC 0 (.int 0), aO 27 0 0, aO 0 6 2, aO 10 0 0, aO 15 (P + 17) 0, aC 0 (.int 0), aO 39 0 0, aO 17 1899 0]
def tlV (P : Nat) : List aI := [aO 0 2 1, aV 177 1 [11], aO 0 5 0, aO 16 (P + 6) 0, aC 0 (.int 0), aO 39 0 0, aO 17 1899 0]
def tlD : List aI := [aO 16 1899 0, aC 0 (.int 0), aO 39 0 0]
def isAt (P : Nat) (sg : List aI) : Prop := ∀ j x, sg[j]? = some x → k_L_law[P + j]? = some x
theorem tl_d {P : Nat} {x : Int32} (hT : isAt P tlD) (hu : uc ≤ U) (hs : us ≤ S) (hG : Gs w (c + 1) W) (go : GoT g d w c U S) : LX g d W uc us P (loL c l5 l6 l7) [.int x, .int x] := by
  refine x_iceq (hT 0 _ rfl) (fun _ => ?_) (fun h => absurd rfl h)
  exact go _ _ _ _ _ _ hG hu hs
theorem tl_i {P : Nat} (hT : isAt P (tlI P)) (hn : w.1 = N0) (hm : m 0 = thr) (ho : thr = 0 → o 0 = a.toInt64) (hu : uc ≤ U) (hs : us ≤ S) (hU : U ≤ 601024) (hS : S ≤ 7293034) (hG : Gs w (c + 1) (lW w o F A L m f RA RB)) (go : GoT g d w c U S) : LX g d (lW w o F A L m f RA RB) uc us P (loL c (some (.int thr)) l6 l7) [.int a] := by
  refine x_is (lo' := loL c (some (.int thr)) (some (.int a)) l7) (hT 0 _ rfl) (Nat.le_of_ble_eq_true rfl) rfl ?_
  refine x_al (hT 1 _ rfl) rfl ?_
  rw [lW_r]
  refine x_inv (as := [.ref 1424]) (rest := []) (hT 2 _ rfl) rfl rfl (Nat.le_of_ble_eq_true rfl) (Or.inl hn) (rcv_at (rw_md (w := cW (aUp w 1438 (oE o)) F A L) hn) (by decide) (by decide)) (by show uc + 0 ≤ 601024; omega) (by show us + 0 ≤ 7293034; omega) (r_thrown (d := d + 40) (w := cW (aUp w 1438 (oE o)) F A L) hn) (fun v9 w9 hq => ?_) (fun E w9 hx => hx.elim)
  obtain ⟨rfl, rfl⟩ := hq
  rw [hm, ← lW_r]
  refine x_il (hT 3 _ rfl) rfl ?_
  refine x_iceq (hT 4 _ rfl) (fun _ => ?_) (fun h => absurd rfl h)
  refine x_il (hT 7 _ rfl) rfl ?_
  refine x_ifne (hT 8 _ rfl) (fun h0 => ?_) (fun h0 => ?_)
  · refine x_go (hT 18 _ rfl) ?_
    exact go _ _ _ _ _ _ hG (by show uc + 0 ≤ U; omega) (by show us + 0 ≤ S; omega)
  · refine x_al (hT 9 _ rfl) rfl ?_
    refine x_c (hT 10 _ rfl) ?_
    refine x_laN (j := 0) (hT 11 _ rfl) (lW_at hn) (by omega) ?_
    refine x_il (hT 12 _ rfl) rfl ?_
    refine x_i2l (hT 13 _ rfl) ?_
    refine x_lcmp (hT 14 _ rfl) ?_
    refine x_ifeq (hT 15 _ rfl) (fun _ => ?_) (fun h => absurd (lcmp_z.mpr (ho h0)) h)
    refine x_go (hT 18 _ rfl) ?_
    exact go _ _ _ _ _ _ hG (by show uc + 0 ≤ U; omega) (by show us + 0 ≤ S; omega)
theorem tl_l {P : Nat} {y : Int64} (hT : isAt P (tlL P)) (hn : w.1 = N0) (hm : m 0 = thr) (ho : thr = 0 → o 0 = y) (hu : uc ≤ U) (hs : us ≤ S) (hU : U ≤ 601024) (hS : S ≤ 7293034) (hG : Gs w (c + 1) (lW w o F A L m f RA RB)) (go : GoT g d w c U S) : LX g d (lW w o F A L m f RA RB) uc us P (loL c (some (.int thr)) l6 l7) [.long y] := by
  refine x_ls (lo' := loL c (some (.int thr)) (some (.long y)) none) (hT 0 _ rfl) (Nat.le_of_ble_eq_true rfl) rfl ?_
  refine x_al (hT 1 _ rfl) rfl ?_
  rw [lW_r]
  refine x_inv (as := [.ref 1424]) (rest := []) (hT 2 _ rfl) rfl rfl (Nat.le_of_ble_eq_true rfl) (Or.inl hn) (rcv_at (rw_md (w := cW (aUp w 1438 (oE o)) F A L) hn) (by decide) (by decide)) (by show uc + 0 ≤ 601024; omega) (by show us + 0 ≤ 7293034; omega) (r_thrown (d := d + 40) (w := cW (aUp w 1438 (oE o)) F A L) hn) (fun v9 w9 hq => ?_) (fun E w9 hx => hx.elim)
  obtain ⟨rfl, rfl⟩ := hq
  rw [hm, ← lW_r]
  refine x_il (hT 3 _ rfl) rfl ?_
  refine x_iceq (hT 4 _ rfl) (fun _ => ?_) (fun h => absurd rfl h)
  refine x_il (hT 7 _ rfl) rfl ?_
  refine x_ifne (hT 8 _ rfl) (fun h0 => ?_) (fun h0 => ?_)
  · refine x_go (hT 17 _ rfl) ?_
    exact go _ _ _ _ _ _ hG (by show uc + 0 ≤ U; omega) (by show us + 0 ≤ S; omega)
  · refine x_al (hT 9 _ rfl) rfl ?_
    refine x_c (hT 10 _ rfl) ?_
    refine x_laN (j := 0) (hT 11 _ rfl) (lW_at hn) (by omega) ?_
    refine x_ll (hT 12 _ rfl) rfl ?_
    refine x_lcmp (hT 13 _ rfl) ?_
    refine x_ifeq (hT 14 _ rfl) (fun _ => ?_) (fun h => absurd (lcmp_z.mpr (ho h0)) h)
    refine x_go (hT 17 _ rfl) ?_
    exact go _ _ _ _ _ _ hG (by show uc + 0 ≤ U; omega) (by show us + 0 ≤ S; omega)
theorem tl_b {P : Nat} {p : Prop} [Decidable p] (hT : isAt P (tlB P)) (hn : w.1 = N0) (hm : m 0 = thr) (ho : thr = 0 → o 0 = if p then 1 else 0) (hu : uc ≤ U) (hs : us ≤ S) (hU : U ≤ 601024) (hS : S ≤ 7293034) (hG : Gs w (c + 1) (lW w o F A L m f RA RB)) (go : GoT g d w c U S) : LX g d (lW w o F A L m f RA RB) uc us P (loL c (some (.int thr)) l6 l7) [.int (bI (decide p))] := by
  refine x_is (lo' := loL c (some (.int thr)) (some (.int (bI (decide p)))) l7) (hT 0 _ rfl) (Nat.le_of_ble_eq_true rfl) rfl ?_
  refine x_al (hT 1 _ rfl) rfl ?_
  rw [lW_r]
  refine x_inv (as := [.ref 1424]) (rest := []) (hT 2 _ rfl) rfl rfl (Nat.le_of_ble_eq_true rfl) (Or.inl hn) (rcv_at (rw_md (w := cW (aUp w 1438 (oE o)) F A L) hn) (by decide) (by decide)) (by show uc + 0 ≤ 601024; omega) (by show us + 0 ≤ 7293034; omega) (r_thrown (d := d + 40) (w := cW (aUp w 1438 (oE o)) F A L) hn) (fun v9 w9 hq => ?_) (fun E w9 hx => hx.elim)
  obtain ⟨rfl, rfl⟩ := hq
  rw [hm, ← lW_r]
  refine x_il (hT 3 _ rfl) rfl ?_
  refine x_iceq (hT 4 _ rfl) (fun _ => ?_) (fun h => absurd rfl h)
  refine x_il (hT 7 _ rfl) rfl ?_
  refine x_ifne (hT 8 _ rfl) (fun h0 => ?_) (fun h0 => ?_)
  · refine x_go (hT 21 _ rfl) ?_
    exact go _ _ _ _ _ _ hG (by show uc + 0 ≤ U; omega) (by show us + 0 ≤ S; omega)
  · refine x_al (hT 9 _ rfl) rfl ?_
    refine x_c (hT 10 _ rfl) ?_
    refine x_laN (j := 0) (hT 11 _ rfl) (lW_at hn) (by omega) ?_
    refine x_il (hT 12 _ rfl) rfl ?_
    have ho := ho h0
    refine x_ifeqB (hT 13 _ rfl) (fun c9 => ?_) (fun c9 => ?_)
    · rw [if_neg c9] at ho
      refine x_c (hT 16 _ rfl) ?_
      refine x_lcmp (hT 17 _ rfl) ?_
      refine x_ifeq (hT 18 _ rfl) (fun _ => ?_) (fun h => absurd (lcmp_z.mpr ho) h)
      refine x_go (hT 21 _ rfl) ?_
      exact go _ _ _ _ _ _ hG (by show uc + 0 ≤ U; omega) (by show us + 0 ≤ S; omega)
    · rw [if_pos c9] at ho
      refine x_c (hT 14 _ rfl) ?_
      refine x_go (hT 15 _ rfl) ?_
      refine x_lcmp (hT 17 _ rfl) ?_
      refine x_ifeq (hT 18 _ rfl) (fun _ => ?_) (fun h => absurd (lcmp_z.mpr ho) h)
      refine x_go (hT 21 _ rfl) ?_
      exact go _ _ _ _ _ _ hG (by show uc + 0 ≤ U; omega) (by show us + 0 ≤ S; omega)
theorem tl_v {P : Nat} (hT : isAt P (tlV P)) (hn : w.1 = N0) (hm : m 0 = thr) (hu : uc ≤ U) (hs : us ≤ S) (hU : U ≤ 601024) (hS : S ≤ 7293034) (hG : Gs w (c + 1) (lW w o F A L m f RA RB)) (go : GoT g d w c U S) : LX g d (lW w o F A L m f RA RB) uc us P (loL c (some (.int thr)) l6 l7) [] := by
  refine x_al (hT 0 _ rfl) rfl ?_
  rw [lW_r]
  refine x_inv (as := [.ref 1424]) (rest := []) (hT 1 _ rfl) rfl rfl (Nat.le_of_ble_eq_true rfl) (Or.inl hn) (rcv_at (rw_md (w := cW (aUp w 1438 (oE o)) F A L) hn) (by decide) (by decide)) (by show uc + 0 ≤ 601024; omega) (by show us + 0 ≤ 7293034; omega) (r_thrown (d := d + 40) (w := cW (aUp w 1438 (oE o)) F A L) hn) (fun v9 w9 hq => ?_) (fun E w9 hx => hx.elim)
  obtain ⟨rfl, rfl⟩ := hq
  rw [hm, ← lW_r]
  refine x_il (hT 2 _ rfl) rfl ?_
  refine x_iceq (hT 3 _ rfl) (fun _ => ?_) (fun h => absurd rfl h)
  refine x_go (hT 6 _ rfl) ?_
  exact go _ _ _ _ _ _ hG (by show uc + 0 ≤ U; omega) (by show us + 0 ≤ S; omega)
end LAW
