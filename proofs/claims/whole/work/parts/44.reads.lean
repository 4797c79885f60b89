/-! readings -/
/-- the reading by bits -/
def rdV (f : Nat → Int32) (c : Nat) (b : Nat) : Int64 := (nuC f c (nI b) false 5).toInt64 <<< ((15 : Int32).toInt64 &&& 63) ||| (nuC f c (nI b) true 5).toInt64
/-- the doubtful fingers of a card -/
def dbt (f : Nat → Int32) (c : Nat) : Nat → Bool := fun j => decide (0 ≤ f (6607 + 26 * c + (16 + j)) ∧ 0 ≤ f (6607 + 26 * c + (6 + j)))
def hasR (row : Nat → Int64) (v : Int64) : Nat → Bool
  | 0 => false
  | k + 1 => hasR row v k || (row k == v)
abbrev rdS : Type := Nat × (Nat → Int64)
def addR (v : Int64) (s : rdS) : rdS := if hasR s.2 v s.1 = true then s else (s.1 + 1, vp_updL s.2 s.1 v)
def rdF (V : Nat → Int64) (D : Nat) : Nat → Nat → rdS → rdS
  | 0, _, s => s
  | k + 1, b, s => if b = 0 then addR (V b) s else rdF V D k ((b - 1) &&& D) (addR (V b) s)
/-- the readings of card c: how many, and which -/
def readsF (f : Nat → Int32) (c : Nat) (row : Nat → Int64) : rdS := rdF (rdV f c) (bitsN (dbt f c) 10) (bitsN (dbt f c) 10 + 1) (bitsN (dbt f c) 10) (0, row)
def sbm (D : Nat) : Nat → Bool := fun s => (s &&& D) == s
theorem cn_up {P : Nat → Bool} {a b : Nat} (h : a ≤ b) : cn P a ≤ cn P b := by
  induction b with
  | zero => rw [show a = 0 by omega]; exact Nat.le_refl _
  | succ b ih =>
    by_cases e : a = b + 1
    · rw [e]; exact Nat.le_refl _
    · have := ih (by omega)
      show cn P a ≤ cn P b + _
      omega
theorem sbm_next {D b : Nat} (hb : 0 < b) (hs : sbm D b = true) : sbm D ((b - 1) &&& D) = true ∧ (b - 1) &&& D < b ∧ cn (sbm D) (((b - 1) &&& D) + 1) + 1 ≤ cn (sbm D) (b + 1) := by
  have hle : (b - 1) &&& D ≤ b - 1 := Nat.and_le_left
  refine ⟨?_, by omega, ?_⟩
  · unfold sbm
    rw [beq_iff_eq, Nat.and_assoc, Nat.and_self]
  · rw [cn_t hs]
    have := cn_up (P := sbm D) (show ((b - 1) &&& D) + 1 ≤ b by omega)
    omega
theorem addR_le (v : Int64) (s : rdS) : (addR v s).1 ≤ s.1 + 1 := by
  unfold addR; split
  · omega
  · exact Nat.le_refl _
section READS
variable {g : aG} {d : Nat} {w : aW} {m f : Nat → Int32} {A : Nat → Nat → Int32} {B : Nat → Nat → Int64}
theorem udB_udB {B : Nat → Nat → Int64} {q : Nat} {a b : Nat → Int64} : udB (udB B q a) q b = udB B q b := by
  funext j; unfold udB; by_cases h : j = q <;> simp [h]
theorem udB_self {B : Nat → Nat → Int64} {q : Nat} : udB B q (B q) = B := by
  funext j; unfold udB; by_cases h : j = q <;> simp [h]
theorem lcmp_z {x y : Int64} : lg_cmp x y = 0 ↔ x = y := by
  unfold lg_cmp
  constructor
  · intro h
    split at h
    · exact absurd h (by decide)
    · split at h
      · assumption
      · exact absurd h (by decide)
  · intro h
    subst h
    simp
theorem n_reads {c nc q : Nat} (hq : q = 1432 ∨ q = 1433) (hF1 : WF1 f nc) (hc : c < nc) (h4 : cn (dbt f c) 10 ≤ 4) (hn : w.1 = N0) : Ev g (d + 12) 245 [.ref 1424, .int (nI c), .ref q] (rW w m f A B) (fun v w' => v = some (.int (nI (readsF f c (B q)).1)) ∧ w' = rW w m f A (udB B q (readsF f c (B q)).2)) noX := by
  have hnc := hF1.2.1
  refine ev_X11_reads ?_ (Nat.le_of_ble_eq_true rfl)
  refine x_lo (lo' := [some (.ref 1424), some (.int (nI c)), some (.ref q), none, none, none, none, none, none, none]) rfl ?_
  refine x_c rfl ?_
  refine x_is (lo' := [_, _, _, _, _, _, _, _, _, _]) rfl (Nat.le_of_ble_eq_true rfl) rfl ?_
  refine x_c rfl ?_
  refine x_is (lo' := [_, _, _, _, _, _, _, _, _, _]) rfl (Nat.le_of_ble_eq_true rfl) rfl ?_
  generalize hP : readsF f c (B q) = P
  unfold readsF at hP
  have hDlt : bitsN (dbt f c) 10 < 1024 := bitsN_lt _ _
  have hT : cn (sbm (bitsN (dbt f c) 10)) (bitsN (dbt f c) 10 + 1) ≤ 16 := by
    refine sub16 ⟨_, hDlt⟩ ?_
    refine Nat.le_trans (cn_mono (P := dbt f c) fun x hx h => ?_) h4
    rw [bitsN_tb] at h
    simp at h
    exact h.2
  generalize hD : bitsN (dbt f c) 10 = D at *
  have loopB : ∀ k b n row l6 l7 l8 l9, b < k → sbm D b = true → b ≤ D → n + cn (sbm D) (b + 1) ≤ 16 → rdF (rdV f c) D k b (n, row) = P → EX g mbOf (Ev g (d + 11)) (infoOf 245) k_X11_reads (fun v w' => v = some (.int (nI P.1)) ∧ w' = rW w m f A (udB B q P.2)) noX w.1 (rW w m f A (udB B q row)) 0 0 35 [some (.ref 1424), some (.int (nI c)), some (.ref q), some (.int (nI D)), some (.int (nI n)), some (.int (nI b)), l6, l7, l8, l9] [] := by
    intro k
    induction k with
    | zero => intro b n row l6 l7 l8 l9 h; omega
    | succ k ihk =>
      intro b n row l6 l7 l8 l9 hbk hs hbD hcn hR
      have hn15 : n < 16 := by rw [cn_t hs] at hcn; omega
      refine x_il rfl rfl ?_
      refine x_iflt rfl (fun cx => absurd cx (nI_pos (by omega))) (fun cx => ?_)
      refine x_al rfl rfl ?_
      refine x_il rfl rfl ?_
      refine x_il rfl rfl ?_
      refine x_c rfl ?_
      refine x_call4 (n_numberOf (lo := false) hF1 hc hn) rfl (Nat.le_of_ble_eq_true rfl) (Or.inl (by first | exact hn | assumption)) (rcv_at (by first | exact rw_md hn | exact rw_w hn | exact rw_A hn (by exact rfl) | exact rw_B2 hn | exact rw_B3 hn | assumption) (by decide) (by decide)) (Nat.le_of_ble_eq_true rfl) (Nat.le_of_ble_eq_true rfl) (fun E w9 hq => hq.elim) ?_
      rintro v9 w9 ⟨rfl, rfl⟩
      refine x_i2l rfl ?_
      refine x_c rfl ?_
      refine x_lshl rfl ?_
      refine x_al rfl rfl ?_
      refine x_il rfl rfl ?_
      refine x_il rfl rfl ?_
      refine x_c rfl ?_
      refine x_call4 (n_numberOf (lo := true) hF1 hc hn) rfl (Nat.le_of_ble_eq_true rfl) (Or.inl (by first | exact hn | assumption)) (rcv_at (by first | exact rw_md hn | exact rw_w hn | exact rw_A hn (by exact rfl) | exact rw_B2 hn | exact rw_B3 hn | assumption) (by decide) (by decide)) (Nat.le_of_ble_eq_true rfl) (Nat.le_of_ble_eq_true rfl) (fun E w9 hq => hq.elim) ?_
      rintro v9 w9 ⟨rfl, rfl⟩
      refine x_i2l rfl ?_
      refine x_lor rfl ?_
      refine x_ls (lo' := [_, _, _, _, _, _, _, _, _, _]) rfl (Nat.le_of_ble_eq_true rfl) rfl ?_
      refine x_c rfl ?_
      refine x_is (lo' := [_, _, _, _, _, _, _, _, _, _]) rfl (Nat.le_of_ble_eq_true rfl) rfl ?_
      refine x_c rfl ?_
      refine x_is (lo' := [_, _, _, _, _, _, _, _, _, _]) rfl (Nat.le_of_ble_eq_true rfl) rfl ?_
      generalize hv : (nuC f c (nI b) false 5).toInt64 <<< ((15 : Int32).toInt64 &&& 63) ||| (nuC f c (nI b) true 5).toInt64 = v
      have hv : rdV f c b = v := hv
      have loopK : ∀ k9, k9 ≤ n → EX g mbOf (Ev g (d + 11)) (infoOf 245) k_X11_reads (fun v w' => v = some (.int (nI P.1)) ∧ w' = rW w m f A (udB B q P.2)) noX w.1 (rW w m f A (udB B q row)) 0 0 57 [some (.ref 1424), some (.int (nI c)), some (.ref q), some (.int (nI D)), some (.int (nI n)), some (.int (nI b)), some (.long v), none, some (.int (bI (hasR row v k9))), some (.int (nI k9))] [] := by
        refine downN n fun k9 hk9 ih9 => ?_
        refine x_il rfl rfl ?_
        refine x_il rfl rfl ?_
        refine x_icgeN rfl (by omega) (fun c0 => ?_) (fun c0 => ?_)
        · refine x_il rfl rfl ?_
          obtain rfl : k9 = n := by omega
          have tail : ∀ s : rdS, s = addR v (k9, row) → EX g mbOf (Ev g (d + 11)) (infoOf 245) k_X11_reads (fun v w' => v = some (.int (nI P.1)) ∧ w' = rW w m f A (udB B q P.2)) noX w.1 (rW w m f A (udB B q s.2)) 0 0 82 [some (.ref 1424), some (.int (nI c)), some (.ref q), some (.int (nI D)), some (.int (nI s.1)), some (.int (nI b)), some (.long v), none, some (.int (bI (hasR row v k9))), some (.int (nI k9))] [] := by
            intro s es
            have hR : (if b = 0 then s else rdF (rdV f c) D k ((b - 1) &&& D) s) = P := by rw [es, ← hv, ← hR]; rfl
            have hs1 : s.1 ≤ k9 + 1 := by rw [es]; exact addR_le _ _
            refine x_il rfl rfl ?_
            refine x_ifneN rfl (by omega) (fun c1 => ?_) (fun c1 => ?_)
            rotate_left
            · refine x_c rfl ?_
              refine x_go rfl ?_
              refine x_is (lo' := [_, _, _, _, _, _, _, _, _, _]) rfl (Nat.le_of_ble_eq_true rfl) rfl ?_
              refine x_go rfl ?_
              rw [if_pos c1] at hR
              refine x_il rfl rfl ?_
              refine x_iflt rfl (fun cx => ?_) (fun cx => absurd (show (-1 : Int32) < 0 by decide) cx)
              refine x_il rfl rfl ?_
              refine x_reti rfl (Nat.le_of_ble_eq_true rfl) (Nat.le_of_ble_eq_true rfl) rfl ?_
              rw [hR]
              exact ⟨rfl, rfl⟩
            refine x_il rfl rfl ?_
            refine x_c rfl ?_
            first | refine x_subN (y := 1) rfl (by omega) ?_ | refine x_sub rfl ?_
            refine x_il rfl rfl ?_
            refine x_and rfl ?_
            refine x_is (lo' := [_, _, _, _, _, _, _, _, _, _]) rfl (Nat.le_of_ble_eq_true rfl) rfl ?_
            refine x_go rfl ?_
            rw [if_neg c1] at hR
            rw [nI_and]
            obtain ⟨s1, s2, s3⟩ := sbm_next (Nat.pos_of_ne_zero c1) hs
            exact ihk _ s.1 s.2 _ _ _ _ (by omega) s1 (by omega) (by omega) hR
          refine x_ifeq rfl (fun c1 => ?_) (fun c1 => ?_)
          rotate_left
          · refine x_go rfl ?_
            refine tail (k9, row) ?_
            unfold addR
            rw [if_pos (by cases hh : hasR row v k9 with
              | true => rfl
              | false => rw [hh] at c1; exact absurd rfl c1)]
          refine x_al rfl rfl ?_
          refine x_il rfl rfl ?_
          refine x_ll rfl rfl ?_
          have hz : hasR row v k9 = false := bI_z.mp c1
          have ht := tail (k9 + 1, vp_updL row k9 v) (by unfold addR; rw [if_neg (by rw [hz]; decide)])
          rcases hq with rfl | rfl
          · refine x_lasB2 rfl hn (by omega) ?_
            rw [udB_udB]
            refine x_inc1 (lo' := [_, _, _, _, _, _, _, _, _, _]) rfl rfl rfl ?_
            exact ht
          · refine x_lasB3 rfl hn (by omega) ?_
            rw [udB_udB]
            refine x_inc1 (lo' := [_, _, _, _, _, _, _, _, _, _]) rfl rfl rfl ?_
            exact ht
        refine x_il rfl rfl ?_
        have ih9 := ih9 c0
        have fin : ∀ z : Bool, z = hasR row v (k9 + 1) → EX g mbOf (Ev g (d + 11)) (infoOf 245) k_X11_reads (fun v w' => v = some (.int (nI P.1)) ∧ w' = rW w m f A (udB B q P.2)) noX w.1 (rW w m f A (udB B q row)) 0 0 71 [some (.ref 1424), some (.int (nI c)), some (.ref q), some (.int (nI D)), some (.int (nI n)), some (.int (nI b)), some (.long v), none, some (.int (bI (hasR row v k9))), some (.int (nI k9))] [.int (bI z)] := by
          intro z hz
          refine x_is (lo' := [_, _, _, _, _, _, _, _, _, _]) rfl (Nat.le_of_ble_eq_true rfl) rfl ?_
          refine x_inc1 (lo' := [_, _, _, _, _, _, _, _, _, _]) rfl rfl rfl ?_
          refine x_go rfl ?_
          rw [hz]
          exact ih9
        refine x_ifne rfl (fun c1 => ?_) (fun c1 => ?_)
        · refine x_c rfl ?_
          refine x_go rfl ?_
          exact fin true (by show _ = (hasR row v k9 || (row k9 == v)); rw [show hasR row v k9 = true by cases hh : hasR row v k9 with
            | true => rfl
            | false => rw [hh] at c1; exact absurd rfl c1]; rfl)
        refine x_al rfl rfl ?_
        refine x_il rfl rfl ?_
        have hz : hasR row v k9 = false := bI_z.mp c1
        have cmp : EX g mbOf (Ev g (d + 11)) (infoOf 245) k_X11_reads (fun v w' => v = some (.int (nI P.1)) ∧ w' = rW w m f A (udB B q P.2)) noX w.1 (rW w m f A (udB B q row)) 0 0 65 [some (.ref 1424), some (.int (nI c)), some (.ref q), some (.int (nI D)), some (.int (nI n)), some (.int (nI b)), some (.long v), none, some (.int (bI (hasR row v k9))), some (.int (nI k9))] [.long (row k9)] := by
          refine x_ll rfl rfl ?_
          refine x_lcmp rfl ?_
          refine x_ifne rfl (fun c2 => ?_) (fun c2 => ?_)
          · refine x_c rfl ?_
            exact fin false (by show _ = (hasR row v k9 || (row k9 == v)); rw [hz, show (row k9 == v) = false by simpa using fun h => c2 (lcmp_z.mpr h)]; rfl)
          refine x_c rfl ?_
          refine x_go rfl ?_
          exact fin true (by show _ = (hasR row v k9 || (row k9 == v)); rw [hz, show (row k9 == v) = true by simpa using lcmp_z.mp c2]; rfl)
        rcases hq with rfl | rfl
        · refine x_laN rfl (rw_B2 hn) (by omega) ?_
          exact cmp
        · refine x_laN rfl (rw_B3 hn) (by omega) ?_
          exact cmp
      exact loopK 0 (Nat.zero_le _)
  have loopA : ∀ j, j ≤ 10 → EX g mbOf (Ev g (d + 11)) (infoOf 245) k_X11_reads (fun v w' => v = some (.int (nI P.1)) ∧ w' = rW w m f A (udB B q P.2)) noX w.1 (rW w m f A B) 0 0 4 [some (.ref 1424), some (.int (nI c)), some (.ref q), some (.int (nI (bitsN (dbt f c) j))), some (.int (nI j)), none, none, none, none, none] [] := by
    refine downN 10 fun j hj ih => ?_
    refine x_il rfl rfl ?_
    refine x_c rfl ?_
    refine x_icgeN (y := 10) rfl (by omega) (fun c0 => ?_) (fun c0 => ?_)
    · refine x_c rfl ?_
      refine x_is (lo' := [_, _, _, _, _, _, _, _, _, _]) rfl (Nat.le_of_ble_eq_true rfl) rfl ?_
      refine x_il rfl rfl ?_
      refine x_is (lo' := [_, _, _, _, _, _, _, _, _, _]) rfl (Nat.le_of_ble_eq_true rfl) rfl ?_
      obtain rfl : j = 10 := by omega
      rw [hD]
      have := loopB (D + 1) D 0 (B q) none none none none (by omega) (by unfold sbm; rw [beq_iff_eq, Nat.and_self]) (Nat.le_refl _) (by omega) hP
      rw [udB_self] at this
      exact this
    refine x_il rfl rfl ?_
    refine x_al rfl rfl ?_
    refine x_il rfl rfl ?_
    refine x_c rfl ?_
    refine x_il rfl rfl ?_
    refine x_addN (x := 16) rfl ?_
    have ih := ih c0
    rw [show bitsN (dbt f c) (j + 1) = bitsN (dbt f c) j ||| (if dbt f c j then 2 ^ j else 0) from rfl] at ih
    have fin : ∀ z : Bool, z = dbt f c j → ∀ x : Int32, x = (if z then nI (2 ^ j) else 0) → EX g mbOf (Ev g (d + 11)) (infoOf 245) k_X11_reads (fun v w' => v = some (.int (nI P.1)) ∧ w' = rW w m f A (udB B q P.2)) noX w.1 (rW w m f A B) 0 0 27 [some (.ref 1424), some (.int (nI c)), some (.ref q), some (.int (nI (bitsN (dbt f c) j))), some (.int (nI j)), none, none, none, none, none] [.int x, .int (nI (bitsN (dbt f c) j))] := by
      intro z hz x hx
      rw [← hz] at ih
      have e : nI (bitsN (dbt f c) j) ||| x = nI (bitsN (dbt f c) j ||| (if z then 2 ^ j else 0)) := by
        rw [hx, ← nI_or]
        cases z <;> rfl
      refine x_or rfl ?_
      rw [e]
      refine x_is (lo' := [_, _, _, _, _, _, _, _, _, _]) rfl (Nat.le_of_ble_eq_true rfl) rfl ?_
      refine x_inc1 (lo' := [_, _, _, _, _, _, _, _, _, _]) rfl rfl rfl ?_
      refine x_go rfl ?_
      exact ih
    refine x_call3 (n_of (by omega) hn) rfl (Nat.le_of_ble_eq_true rfl) (Or.inl (by first | exact hn | assumption)) (rcv_at (by first | exact rw_md hn | exact rw_w hn | exact rw_A hn (by exact rfl) | exact rw_B2 hn | exact rw_B3 hn | assumption) (by decide) (by decide)) (Nat.le_of_ble_eq_true rfl) (Nat.le_of_ble_eq_true rfl) (fun E w9 hq => hq.elim) ?_
    rintro v9 w9 ⟨rfl, rfl⟩
    refine x_iflt rfl (fun c1 => ?_) (fun c1 => ?_)
    · refine x_c rfl ?_
      exact fin false (by unfold dbt; rw [decide_eq_false (fun h => absurd c1 (Int32.not_lt.mpr h.1))]) _ rfl
    refine x_al rfl rfl ?_
    refine x_il rfl rfl ?_
    refine x_c rfl ?_
    refine x_il rfl rfl ?_
    refine x_addN (x := 6) rfl ?_
    refine x_call3 (n_of (by omega) hn) rfl (Nat.le_of_ble_eq_true rfl) (Or.inl (by first | exact hn | assumption)) (rcv_at (by first | exact rw_md hn | exact rw_w hn | exact rw_A hn (by exact rfl) | exact rw_B2 hn | exact rw_B3 hn | assumption) (by decide) (by decide)) (Nat.le_of_ble_eq_true rfl) (Nat.le_of_ble_eq_true rfl) (fun E w9 hq => hq.elim) ?_
    rintro v9 w9 ⟨rfl, rfl⟩
    refine x_iflt rfl (fun c2 => ?_) (fun c2 => ?_)
    · refine x_c rfl ?_
      exact fin false (by unfold dbt; rw [decide_eq_false (fun h => absurd c2 (Int32.not_lt.mpr h.2))]) _ rfl
    refine x_c rfl ?_
    refine x_il rfl rfl ?_
    refine x_shl rfl ?_
    refine x_go rfl ?_
    exact fin true (by unfold dbt; rw [decide_eq_true ⟨Int32.not_lt.mp c1, Int32.not_lt.mp c2⟩]) _ (by rw [shl_nI (by omega)]; rfl)
  exact loopA 0 (by decide)
end READS
