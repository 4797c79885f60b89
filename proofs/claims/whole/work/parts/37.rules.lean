/-! the reference's texts in force and rules -/
def tx (t : Nat) : Nat := 12826 + 850 * t
def oI : Option Nat → Int32
  | none => -1
  | some t => nI t
abbrev newer (f : Nat → Int32) (day : Int32) (t : Nat) (b : Option Nat) : Prop := f (12826 + 850 * t) ≤ day ∧ match b with
  | none => True
  | some b => f (12826 + 850 * b) ≤ f (12826 + 850 * t)
def bestT (f : Nat → Int32) (day : Int32) : Nat → Option Nat := acc (fun t (b : Option Nat) => if f (12826 + 850 * t) ≤ day ∧ (∀ c, b = some c → f (12826 + 850 * c) ≤ f (12826 + 850 * t)) then some t else b) none
theorem bestT_lt {f : Nat → Int32} {day : Int32} : ∀ n t, bestT f day n = some t → t < n := by
  intro n
  induction n with
  | zero => intro t h; cases h
  | succ n ih =>
    intro t h
    unfold bestT at h
    rw [acc_s] at h
    split at h
    · cases h; omega
    · have := ih t h; omega
def rulN (f : Nat → Int32) : Option Nat → Int32
  | none => 0
  | some t => f (12826 + 850 * t + 1)
section RULESR
variable {g : aG} {d : Nat} {w : aW} {m f : Nat → Int32} {A : Nat → Nat → Int32} {B : Nat → Nat → Int64}
theorem n_textOf {day : Int32} {n : Nat} (hc : f 12825 = nI n) (h10 : n ≤ 10) (hn : w.1 = N0) : Ev g (d + 2) 257 [.ref 1424, .int day] (rW w m f A B) (RetQ (oI (bestT f day n)) (rW w m f A B)) noX := by
  refine ev_X11_textOf ?_ (Nat.le_of_ble_eq_true rfl)
  refine x_lo (lo' := [some (.ref 1424), some (.int day), none, none]) rfl ?_
  refine x_c rfl ?_
  refine x_is (lo' := [_, _, _, _]) rfl (Nat.le_of_ble_eq_true rfl) rfl ?_
  refine x_c rfl ?_
  refine x_is (lo' := [_, _, _, _]) rfl (Nat.le_of_ble_eq_true rfl) rfl ?_
  have loop : ∀ t, t ≤ n → EX g mbOf (Ev g (d + 1)) (infoOf 257) k_X11_textOf (RetQ (oI (bestT f day n)) (rW w m f A B)) noX w.1 (rW w m f A B) 0 0 4 [some (.ref 1424), some (.int day), some (.int (oI (bestT f day t))), some (.int (nI t))] [] := by
    refine downN n fun t ht ih => ?_
    refine x_il rfl rfl ?_
    refine x_al rfl rfl ?_
    refine x_get rfl (rw_md hn) (by exact rfl) ?_
    refine x_c rfl ?_
    refine x_iaN (j := 12825) rfl (by first | exact rw_md hn | exact rw_w hn | exact rw_A hn (by exact rfl) | exact rw_B2 hn | exact rw_B3 hn | assumption) (by omega) ?_
    rw [hc]
    refine x_icgeN rfl (by omega) (fun c => ?_) (fun c => ?_)
    · refine x_il rfl rfl ?_
      refine x_reti rfl (Nat.le_of_ble_eq_true rfl) (Nat.le_of_ble_eq_true rfl) rfl ?_
      obtain rfl : t = n := by omega
      exact ⟨rfl, rfl⟩
    refine x_al rfl rfl ?_
    refine x_get rfl (rw_md hn) (by exact rfl) ?_
    refine x_il rfl rfl ?_
    have hb : bestT f day (t + 1) = if f (12826 + 850 * t) ≤ day ∧ (∀ c, bestT f day t = some c → f (12826 + 850 * c) ≤ f (12826 + 850 * t)) then some t else bestT f day t := rfl
    have hlt := bestT_lt (f := f) (day := day) t
    have ih := ih c
    rw [hb] at ih
    generalize bestT f day t = b at *
    refine x_call1 (m_textAt) rfl (Nat.le_of_ble_eq_true rfl) (Or.inl (by first | exact hn | assumption)) trivial (Nat.le_of_ble_eq_true rfl) (Nat.le_of_ble_eq_true rfl) (fun E w9 hq => hq.elim) ?_
    rintro v9 w9 ⟨rfl, rfl⟩
    refine x_iaN rfl (by first | exact rw_md hn | exact rw_w hn | exact rw_A hn (by exact rfl) | exact rw_B2 hn | exact rw_B3 hn | assumption) (by omega) ?_
    refine x_il rfl rfl ?_
    refine x_icgt rfl (fun c1 => ?_) (fun c1 => ?_)
    · refine x_inc1 (lo' := [_, _, _, _]) rfl rfl rfl ?_
      refine x_go rfl ?_
      rw [if_neg (fun h => absurd c1 (Int32.not_lt.mpr h.1))] at ih
      exact ih
    refine x_il rfl rfl ?_
    have c1 := Int32.not_lt.mp c1
    cases b with
    | none =>
      refine x_iflt rfl (fun c => ?_) (fun c => absurd (show (-1 : Int32) < 0 by decide) c)
      refine x_il rfl rfl ?_
      refine x_is (lo' := [_, _, _, _]) rfl (Nat.le_of_ble_eq_true rfl) rfl ?_
      refine x_inc1 (lo' := [_, _, _, _]) rfl rfl rfl ?_
      refine x_go rfl ?_
      rw [if_pos ⟨c1, fun c h => by cases h⟩] at ih
      exact ih
    | some b =>
      have hb10 := hlt b rfl
      refine x_iflt rfl (fun c => absurd c (nI_pos (by omega))) (fun c => ?_)
      refine x_al rfl rfl ?_
      refine x_get rfl (rw_md hn) (by exact rfl) ?_
      refine x_il rfl rfl ?_
      refine x_call1 (m_textAt) rfl (Nat.le_of_ble_eq_true rfl) (Or.inl (by first | exact hn | assumption)) trivial (Nat.le_of_ble_eq_true rfl) (Nat.le_of_ble_eq_true rfl) (fun E w9 hq => hq.elim) ?_
      rintro v9 w9 ⟨rfl, rfl⟩
      refine x_iaN rfl (by first | exact rw_md hn | exact rw_w hn | exact rw_A hn (by exact rfl) | exact rw_B2 hn | exact rw_B3 hn | assumption) (by omega) ?_
      refine x_al rfl rfl ?_
      refine x_get rfl (rw_md hn) (by exact rfl) ?_
      refine x_il rfl rfl ?_
      rw [show oI (some b) = nI b from rfl]
      refine x_call1 (m_textAt) rfl (Nat.le_of_ble_eq_true rfl) (Or.inl (by first | exact hn | assumption)) trivial (Nat.le_of_ble_eq_true rfl) (Nat.le_of_ble_eq_true rfl) (fun E w9 hq => hq.elim) ?_
      rintro v9 w9 ⟨rfl, rfl⟩
      refine x_iaN rfl (by first | exact rw_md hn | exact rw_w hn | exact rw_A hn (by exact rfl) | exact rw_B2 hn | exact rw_B3 hn | assumption) (by omega) ?_
      refine x_iclt rfl (fun c2 => ?_) (fun c2 => ?_)
      · refine x_inc1 (lo' := [_, _, _, _]) rfl rfl rfl ?_
        refine x_go rfl ?_
        rw [if_neg (fun h => absurd c2 (Int32.not_lt.mpr (h.2 b rfl)))] at ih
        exact ih
      refine x_il rfl rfl ?_
      refine x_is (lo' := [_, _, _, _]) rfl (Nat.le_of_ble_eq_true rfl) rfl ?_
      refine x_inc1 (lo' := [_, _, _, _]) rfl rfl rfl ?_
      refine x_go rfl ?_
      rw [if_pos ⟨c1, fun c h => by cases h; exact Int32.not_lt.mp c2⟩] at ih
      exact ih
  exact loop 0 (Nat.zero_le _)
theorem n_rulesOf {o : Option Nat} (ho : ∀ t, o = some t → t < 10) (hn : w.1 = N0) : Ev g (d + 2) 258 [.ref 1424, .int (oI o)] (rW w m f A B) (RetQ (rulN f o) (rW w m f A B)) noX := by
  refine ev_X11_rulesOf ?_ (Nat.le_of_ble_eq_true rfl)
  refine x_lo (lo' := [some (.ref 1424), some (.int (oI o))]) rfl ?_
  refine x_il rfl rfl ?_
  cases o with
  | none =>
    refine x_ifge rfl (fun c => absurd c (show ¬ (0 : Int32) ≤ -1 by decide)) (fun c => ?_)
    refine x_c rfl ?_
    refine x_go rfl ?_
    refine x_reti rfl (Nat.le_of_ble_eq_true rfl) (Nat.le_of_ble_eq_true rfl) rfl ?_
    exact ⟨rfl, rfl⟩
  | some t =>
    have := ho t rfl
    refine x_ifge rfl (fun c => ?_) (fun c => absurd (nI_pos' (show t < 2 ^ 31 by omega)) c)
    refine x_al rfl rfl ?_
    refine x_get rfl (rw_md hn) (by exact rfl) ?_
    refine x_il rfl rfl ?_
    rw [show oI (some t) = nI t from rfl]
    refine x_call1 (m_textAt) rfl (Nat.le_of_ble_eq_true rfl) (Or.inl (by first | exact hn | assumption)) trivial (Nat.le_of_ble_eq_true rfl) (Nat.le_of_ble_eq_true rfl) (fun E w9 hq => hq.elim) ?_
    rintro v9 w9 ⟨rfl, rfl⟩
    refine x_c rfl ?_
    refine x_addN (y := 1) rfl ?_
    refine x_iaN rfl (by first | exact rw_md hn | exact rw_w hn | exact rw_A hn (by exact rfl) | exact rw_B2 hn | exact rw_B3 hn | assumption) (by omega) ?_
    refine x_reti rfl (Nat.le_of_ble_eq_true rfl) (Nat.le_of_ble_eq_true rfl) rfl ?_
    exact ⟨rfl, rfl⟩
end RULESR
/-- the step i of text t -/
def cd (t i : Nat) : Nat := 12826 + 850 * t + 50 + 2 * i
def okH (f : Nat → Int32) (t : Nat) : Nat → Nat → Nat → Prop
  | 0, _, h => h ≤ 1
  | k + 1, i, h => (f (cd t i) = 300 ∧ 1 ≤ h ∧ okH f t k (i + 1) h) ∨ ((f (cd t i) = 301 ∨ f (cd t i) = 302) ∧ 2 ≤ h ∧ okH f t k (i + 1) (h - 1)) ∨ ((∃ c, (c < 4 ∨ (100 ≤ c ∧ c < 105) ∨ (200 ≤ c ∧ c < 205)) ∧ f (cd t i) = nI c) ∧ h < 30 ∧ okH f t k (i + 1) (h + 1))
def valH (tg : Nat → Bool) (fc : Nat → Int32) (x than : Int32) : Bool := if x < 4 then tg x.toNatClampNeg else if x < 200 then decide (fc (x - 100).toNatClampNeg < than) else decide (than < fc (x - 200).toNatClampNeg)
def stepH (tg : Nat → Bool) (fc : Nat → Int32) (x than : Int32) (st : List Bool) : List Bool := if x = 300 then (match st with
  | a :: r => (!a) :: r
  | [] => []) else if 301 ≤ x then (match st with
  | b :: a :: r => (if x = 301 then a && b else a || b) :: r
  | r => r) else valH tg fc x than :: st
def runH (f : Nat → Int32) (t : Nat) (tg : Nat → Bool) (fc : Nat → Int32) (s : Nat) : Nat → List Bool := acc (fun k st => stepH tg fc (f (cd t (s + k))) (f (cd t (s + k) + 1)) st) []
def topB : List Bool → Bool
  | [] => true
  | [x] => x
  | _ :: y :: r => topB (y :: r)
/-- whether a rule's condition holds -/
def holdF (f : Nat → Int32) (t : Nat) (tg : Nat → Bool) (fc : Nat → Int32) (s e : Nat) : Bool := topB (runH f t tg fc s (e - s))
def Mt (mt : Nat → Int32) : List Bool → Prop
  | [] => True
  | x :: r => mt r.length = bI x ∧ Mt mt r
theorem Mt_upd {mt : Nat → Int32} {k : Nat} {v : Int32} : ∀ {st : List Bool}, st.length ≤ k → Mt mt st → Mt (upd mt k v) st := by
  intro st
  induction st with
  | nil => intro _ _; trivial
  | cons x r ih =>
    intro h hm
    have hl : (x :: r).length = r.length + 1 := rfl
    exact ⟨by rw [pk_un (by omega)]; exact hm.1, ih (by omega) hm.2⟩
theorem Mt_put {mt : Nat → Int32} {x : Bool} {r : List Bool} (h : Mt mt r) : Mt (upd mt r.length (bI x)) (x :: r) := ⟨pk_us, Mt_upd (Nat.le_refl _) h⟩
theorem Mt_0 {mt : Nat → Int32} : ∀ {x : Bool} {r : List Bool}, Mt mt (x :: r) → mt 0 = bI (topB (x :: r)) := by
  intro x r
  induction r generalizing x with
  | nil => intro h; exact h.1
  | cons y r ih => intro h; exact ih h.2
section HOLDS
variable {g : aG} {d : Nat} {w : aW} {m f : Nat → Int32} {A : Nat → Nat → Int32} {B : Nat → Nat → Int64}
theorem n_holds {t n s e : Nat} {tg : Nat → Bool} (ht : t < 10) (hr : n < 12) (hs : f (12826 + 850 * t + 2 + 4 * n + 2) = nI s) (he : f (12826 + 850 * t + 2 + 4 * n + 3) = nI e) (hse : s ≤ e) (he4 : e ≤ 400) (hok : okH f t (e - s) s 0) (htg : ∀ k, k < 4 → A 1434 k = bI (tg k)) (hn : w.1 = N0) : Ev g (d + 3) 259 [.ref 1424, .int (nI t), .int (nI n)] (rW w m f A B) (fun v w' => v = some (.int (bI (holdF f t tg (A 1435) s e))) ∧ ∃ mt, w' = rW w m f (udA A 1436 mt) B) noX := by
  refine ev_X11_holds ?_ (Nat.le_of_ble_eq_true rfl)
  refine x_lo (lo' := [some (.ref 1424), some (.int (nI t)), some (.int (nI n)), none, none, none, none, none]) rfl ?_
  refine x_il rfl rfl ?_
  refine x_il rfl rfl ?_
  refine x_call2 (m_ruleAt hn) rfl (Nat.le_of_ble_eq_true rfl) (Or.inl (by first | exact hn | assumption)) trivial (Nat.le_of_ble_eq_true rfl) (Nat.le_of_ble_eq_true rfl) (fun E w9 hq => hq.elim) ?_
  rintro v9 w9 ⟨rfl, rfl⟩
  refine x_is (lo' := [_, _, _, _, _, _, _, _]) rfl (Nat.le_of_ble_eq_true rfl) rfl ?_
  refine x_c rfl ?_
  refine x_is (lo' := [_, _, _, _, _, _, _, _]) rfl (Nat.le_of_ble_eq_true rfl) rfl ?_
  refine x_al rfl rfl ?_
  refine x_get rfl (rw_md hn) (by exact rfl) ?_
  refine x_il rfl rfl ?_
  refine x_c rfl ?_
  refine x_addN (y := 2) rfl ?_
  refine x_iaN rfl (by first | exact rw_md hn | exact rw_w hn | exact rw_A hn (by exact rfl) | exact rw_B2 hn | exact rw_B3 hn | assumption) (by omega) ?_
  rw [hs]
  refine x_is (lo' := [_, _, _, _, _, _, _, _]) rfl (Nat.le_of_ble_eq_true rfl) rfl ?_
  have loop : ∀ k, k ≤ e - s → ∀ mt o6 o7, Mt mt (runH f t tg (A 1435) s k) → okH f t (e - s - k) (s + k) (runH f t tg (A 1435) s k).length → (runH f t tg (A 1435) s k).length ≤ 30 → EX g mbOf (Ev g (d + 2)) (infoOf 259) k_X11_holds (fun v w' => v = some (.int (bI (holdF f t tg (A 1435) s e))) ∧ ∃ mt, w' = rW w m f (udA A 1436 mt) B) noX w.1 (rW w m f (udA A 1436 mt) B) 0 0 13 [some (.ref 1424), some (.int (nI t)), some (.int (nI n)), some (.int (nI (12826 + 850 * t + 2 + 4 * n))), some (.int (nI (runH f t tg (A 1435) s k).length)), some (.int (nI (s + k))), o6, o7] [] := by
    refine downN (e - s) fun k hk ih => ?_
    intro mt o6 o7 hm ho h30
    refine x_il rfl rfl ?_
    refine x_al rfl rfl ?_
    refine x_get rfl (rw_md hn) (by exact rfl) ?_
    refine x_il rfl rfl ?_
    refine x_c rfl ?_
    refine x_addN (y := 3) rfl ?_
    refine x_iaN rfl (by first | exact rw_md hn | exact rw_w hn | exact rw_A hn (by exact rfl) | exact rw_B2 hn | exact rw_B3 hn | assumption) (by omega) ?_
    rw [he]
    refine x_icgeN rfl (by omega) (fun c => ?_) (fun c => ?_)
    · refine x_il rfl rfl ?_
      obtain rfl : k = e - s := by omega
      unfold holdF
      rw [show e - s - (e - s) = 0 by omega] at ho
      generalize runH f t tg (A 1435) s (e - s) = st at *
      have hst : st.length ≤ 1 := ho
      cases st with
      | nil =>
        refine x_ifeqN rfl (by omega) (fun c => ?_) (fun c => absurd rfl c)
        refine x_c rfl ?_
        refine x_go rfl ?_
        refine x_retz rfl (Nat.le_of_ble_eq_true rfl) (Nat.le_of_ble_eq_true rfl) rfl (by first | rfl | assumption) ?_
        exact ⟨rfl, mt, rfl⟩
      | cons x r =>
        refine x_ifeqN rfl (by omega) (fun c => absurd c (Nat.succ_ne_zero _)) (fun c => ?_)
        refine x_al rfl rfl ?_
        refine x_get rfl (rw_md hn) (by exact rfl) ?_
        refine x_c rfl ?_
        first | refine x_baN (j := 0) rfl (rw_A hn (by exact rfl)) (by omega) ?_ | refine x_zaN (j := 0) rfl (by first | exact rw_md hn | exact rw_w hn | exact rw_A hn (by exact rfl) | exact rw_B2 hn | exact rw_B3 hn | assumption) (by omega) ?_
        rw [show udA A 1436 mt 1436 0 = mt 0 from rfl, Mt_0 hm]
        refine x_ifeq rfl (fun c1 => ?_) (fun c1 => ?_)
        · refine x_c rfl ?_
          refine x_retz rfl (Nat.le_of_ble_eq_true rfl) (Nat.le_of_ble_eq_true rfl) rfl (by first | rfl | assumption) ?_
          exact ⟨by rw [bI_z.mp c1]; rfl, mt, rfl⟩
        refine x_c rfl ?_
        refine x_go rfl ?_
        refine x_retz rfl (Nat.le_of_ble_eq_true rfl) (Nat.le_of_ble_eq_true rfl) rfl (by first | rfl | assumption) ?_
        refine ⟨?_, mt, rfl⟩
        cases hx : topB (x :: r) with
        | true => rfl
        | false => rw [hx] at c1; exact absurd rfl c1
    refine x_al rfl rfl ?_
    refine x_get rfl (rw_md hn) (by exact rfl) ?_
    refine x_il rfl rfl ?_
    obtain ⟨j, hj⟩ : ∃ j, e - s - k = j + 1 := ⟨e - s - k - 1, by omega⟩
    rw [hj] at ho
    have hrun : runH f t tg (A 1435) s (k + 1) = stepH tg (A 1435) (f (cd t (s + k))) (f (cd t (s + k) + 1)) (runH f t tg (A 1435) s k) := rfl
    have ih := ih (by omega)
    rw [hrun, show e - s - (k + 1) = j by omega] at ih
    generalize runH f t tg (A 1435) s k = st at *
    have hcd : cd t (s + k) = 12826 + 850 * t + 50 + 2 * (s + k) := rfl
    rw [← Nat.add_assoc] at ih
    generalize hi : s + k = i at *
    have hi4 : i < 400 := by omega
    refine x_call1 (m_textAt) rfl (Nat.le_of_ble_eq_true rfl) (Or.inl (by first | exact hn | assumption)) trivial (Nat.le_of_ble_eq_true rfl) (Nat.le_of_ble_eq_true rfl) (fun E w9 hq => hq.elim) ?_
    rintro v9 w9 ⟨rfl, rfl⟩
    refine x_c rfl ?_
    refine x_addN (y := 50) rfl ?_
    refine x_c rfl ?_
    refine x_il rfl rfl ?_
    refine x_mulN (x := 2) rfl ?_
    refine x_addN rfl ?_
    refine x_iaN rfl (by first | exact rw_md hn | exact rw_w hn | exact rw_A hn (by exact rfl) | exact rw_B2 hn | exact rw_B3 hn | assumption) (by omega) ?_
    refine x_is (lo' := [_, _, _, _, _, _, _, _]) rfl (Nat.le_of_ble_eq_true rfl) rfl ?_
    refine x_al rfl rfl ?_
    refine x_get rfl (rw_md hn) (by exact rfl) ?_
    refine x_il rfl rfl ?_
    refine x_call1 (m_textAt) rfl (Nat.le_of_ble_eq_true rfl) (Or.inl (by first | exact hn | assumption)) trivial (Nat.le_of_ble_eq_true rfl) (Nat.le_of_ble_eq_true rfl) (fun E w9 hq => hq.elim) ?_
    rintro v9 w9 ⟨rfl, rfl⟩
    refine x_c rfl ?_
    refine x_addN (y := 50) rfl ?_
    refine x_c rfl ?_
    refine x_il rfl rfl ?_
    refine x_mulN (x := 2) rfl ?_
    refine x_addN rfl ?_
    refine x_c rfl ?_
    refine x_addN (y := 1) rfl ?_
    refine x_iaN rfl (by first | exact rw_md hn | exact rw_w hn | exact rw_A hn (by exact rfl) | exact rw_B2 hn | exact rw_B3 hn | assumption) (by omega) ?_
    refine x_is (lo' := [_, _, _, _, _, _, _, _]) rfl (Nat.le_of_ble_eq_true rfl) rfl ?_
    rw [← hcd]
    generalize hx : f (cd t i) = x at *
    generalize hth : f (cd t i + 1) = than at *
    refine x_il rfl rfl ?_
    refine x_c rfl ?_
    have fin : ∀ (z : Bool) (r : List Bool) pc, (pc = 65 ∨ pc = 110) → stepH tg (A 1435) x than st = z :: r → Mt mt r → okH f t j (i + 1) (r.length + 1) → r.length + 1 ≤ 30 → EX g mbOf (Ev g (d + 2)) (infoOf 259) k_X11_holds (fun v w' => v = some (.int (bI (holdF f t tg (A 1435) s e))) ∧ ∃ mt, w' = rW w m f (udA A 1436 mt) B) noX w.1 (rW w m f (udA A 1436 mt) B) 0 0 pc [some (.ref 1424), some (.int (nI t)), some (.int (nI n)), some (.int (nI (12826 + 850 * t + 2 + 4 * n))), some (.int (nI (r.length + 1))), some (.int (nI i)), some (.int x), some (.int than)] [.int (bI z), .int (nI r.length), .ref 1436] := by
      intro z r pc hpc e1 e2 e3 e4
      have ih := ih (upd mt r.length (bI z)) (some (.int x)) (some (.int than)) (by rw [e1]; exact Mt_put e2) (by rw [e1]; exact e3) (by rw [e1]; exact e4)
      rw [e1] at ih
      have hz := bI_01 z
      rcases hpc with rfl | rfl
      · first | refine x_basA rfl hn (by exact rfl) (by omega) ?_ | refine x_zasA rfl hn (by exact rfl) (by omega) (by first | rfl | assumption) ?_
        rw [udA_udA]
        refine x_go rfl ?_
        refine x_inc1 (lo' := [_, _, _, _, _, _, _, _]) rfl rfl rfl ?_
        refine x_go rfl ?_
        exact ih
      · first | refine x_basA rfl hn (by exact rfl) (by omega) ?_ | refine x_zasA rfl hn (by exact rfl) (by omega) (by first | rfl | assumption) ?_
        rw [udA_udA]
        refine x_go rfl ?_
        refine x_inc1 (lo' := [_, _, _, _, _, _, _, _]) rfl rfl rfl ?_
        refine x_go rfl ?_
        exact ih
    have push : ∀ z : Bool, stepH tg (A 1435) x than st = z :: st → okH f t j (i + 1) (st.length + 1) → st.length < 30 → EX g mbOf (Ev g (d + 2)) (infoOf 259) k_X11_holds (fun v w' => v = some (.int (bI (holdF f t tg (A 1435) s e))) ∧ ∃ mt, w' = rW w m f (udA A 1436 mt) B) noX w.1 (rW w m f (udA A 1436 mt) B) 0 0 149 [some (.ref 1424), some (.int (nI t)), some (.int (nI n)), some (.int (nI (12826 + 850 * t + 2 + 4 * n))), some (.int (nI st.length)), some (.int (nI i)), some (.int x), some (.int than)] [.int (bI z), .int (nI st.length), .ref 1436] := by
      intro z e1 e3 e4
      have ih := ih (upd mt st.length (bI z)) (some (.int x)) (some (.int than)) (by rw [e1]; exact Mt_put hm) (by rw [e1]; exact e3) (by rw [e1]; exact e4)
      rw [e1] at ih
      have hz := bI_01 z
      first | refine x_basA rfl hn (by exact rfl) (by omega) ?_ | refine x_zasA rfl hn (by exact rfl) (by omega) (by first | rfl | assumption) ?_
      rw [udA_udA]
      refine x_inc1 (lo' := [_, _, _, _, _, _, _, _]) rfl rfl rfl ?_
      refine x_inc1 (lo' := [_, _, _, _, _, _, _, _]) rfl rfl rfl ?_
      refine x_go rfl ?_
      exact ih
    rcases ho with ⟨h0, h1, ho⟩ | ⟨h12, h1, ho⟩ | ⟨⟨q, hq, h0⟩, h1, ho⟩
    · rw [hx] at h0
      subst h0
      cases st with
      | nil => exact absurd h1 (by decide)
      | cons a r =>
        have hl : (a :: r).length = r.length + 1 := rfl
        refine x_icne rfl (fun c => absurd rfl c) (fun c => ?_)
        refine x_al rfl rfl ?_
        refine x_get rfl (rw_md hn) (by exact rfl) ?_
        refine x_il rfl rfl ?_
        refine x_c rfl ?_
        first | refine x_subN (y := 1) rfl (by omega) ?_ | refine x_sub rfl ?_
        refine x_al rfl rfl ?_
        refine x_get rfl (rw_md hn) (by exact rfl) ?_
        refine x_il rfl rfl ?_
        refine x_c rfl ?_
        first | refine x_subN (y := 1) rfl (by omega) ?_ | refine x_sub rfl ?_
        first | refine x_baN rfl (rw_A hn (by exact rfl)) (by omega) ?_ | refine x_zaN rfl (by first | exact rw_md hn | exact rw_w hn | exact rw_A hn (by exact rfl) | exact rw_B2 hn | exact rw_B3 hn | assumption) (by omega) ?_
        rw [show udA A 1436 mt 1436 ((a :: r).length - 1) = mt r.length from rfl, hm.1]
        refine x_ifne rfl (fun c1 => ?_) (fun c1 => ?_)
        · refine x_c rfl ?_
          have ha : a = true := by cases a with
            | true => rfl
            | false => exact absurd rfl c1
          subst ha
          exact fin false r 65 (Or.inl rfl) rfl hm.2 ho (by omega)
        refine x_c rfl ?_
        refine x_go rfl ?_
        have ha : a = false := bI_z.mp c1
        subst ha
        exact fin true r 65 (Or.inl rfl) rfl hm.2 ho (by omega)
    · rw [hx] at h12
      cases st with
      | nil => exact absurd h1 (by decide)
      | cons b r =>
        cases r with
        | nil => exact absurd h1 (show ¬ 2 ≤ 1 by decide)
        | cons a r =>
          have hl : (b :: a :: r).length = r.length + 2 := rfl
          rcases h12 with rfl | rfl
          · refine x_icne rfl (fun c => ?_) (fun c => absurd (show ¬ (301 : Int32) = 300 by decide) (fun h => h c))
            refine x_il rfl rfl ?_
            refine x_c rfl ?_
            refine x_iclt rfl (fun c => absurd c (by decide)) (fun c => ?_)
            refine x_inc (lo' := [_, _, _, _, _, _, _, _]) rfl rfl rfl ?_
            rw [show nI (b :: a :: r).length + -1 = nI (r.length + 1) from pk_m1 _]
            refine x_al rfl rfl ?_
            refine x_get rfl (rw_md hn) (by exact rfl) ?_
            refine x_il rfl rfl ?_
            refine x_c rfl ?_
            first | refine x_subN (y := 1) rfl (by omega) ?_ | refine x_sub rfl ?_
            refine x_il rfl rfl ?_
            refine x_c rfl ?_
            refine x_icne rfl (fun c => absurd rfl c) (fun c => ?_)
            refine x_al rfl rfl ?_
            refine x_get rfl (rw_md hn) (by exact rfl) ?_
            refine x_il rfl rfl ?_
            refine x_c rfl ?_
            first | refine x_subN (y := 1) rfl (by omega) ?_ | refine x_sub rfl ?_
            first | refine x_baN rfl (rw_A hn (by exact rfl)) (by omega) ?_ | refine x_zaN rfl (by first | exact rw_md hn | exact rw_w hn | exact rw_A hn (by exact rfl) | exact rw_B2 hn | exact rw_B3 hn | assumption) (by omega) ?_
            rw [show udA A 1436 mt 1436 (r.length + 1 - 1) = mt r.length from rfl, hm.2.1]
            have h65 := fun z e => fin z r 110 (Or.inr rfl) e hm.2.2 ho (by omega)
            refine x_ifeq rfl (fun c1 => ?_) (fun c1 => ?_)
            · refine x_c rfl ?_
              refine x_go rfl ?_
              exact h65 false (by show (a && b) :: r = false :: r; rw [bI_z.mp c1]; rfl)
            refine x_al rfl rfl ?_
            refine x_get rfl (rw_md hn) (by exact rfl) ?_
            refine x_il rfl rfl ?_
            first | refine x_baN rfl (rw_A hn (by exact rfl)) (by omega) ?_ | refine x_zaN rfl (by first | exact rw_md hn | exact rw_w hn | exact rw_A hn (by exact rfl) | exact rw_B2 hn | exact rw_B3 hn | assumption) (by omega) ?_
            have ha : a = true := by cases a with
              | true => rfl
              | false => exact absurd rfl c1
            subst ha
            rw [show udA A 1436 mt 1436 (r.length + 1) = bI b from hm.1]
            refine x_ifeq rfl (fun c2 => ?_) (fun c2 => ?_)
            · refine x_c rfl ?_
              refine x_go rfl ?_
              exact h65 false (by show (true && b) :: r = false :: r; rw [bI_z.mp c2]; rfl)
            refine x_c rfl ?_
            refine x_go rfl ?_
            have hb : b = true := by cases b with
              | true => rfl
              | false => exact absurd rfl c2
            subst hb
            exact h65 true rfl
          · refine x_icne rfl (fun c => ?_) (fun c => absurd (show ¬ (302 : Int32) = 300 by decide) (fun h => h c))
            refine x_il rfl rfl ?_
            refine x_c rfl ?_
            refine x_iclt rfl (fun c => absurd c (by decide)) (fun c => ?_)
            refine x_inc (lo' := [_, _, _, _, _, _, _, _]) rfl rfl rfl ?_
            rw [show nI (b :: a :: r).length + -1 = nI (r.length + 1) from pk_m1 _]
            refine x_al rfl rfl ?_
            refine x_get rfl (rw_md hn) (by exact rfl) ?_
            refine x_il rfl rfl ?_
            refine x_c rfl ?_
            first | refine x_subN (y := 1) rfl (by omega) ?_ | refine x_sub rfl ?_
            refine x_il rfl rfl ?_
            refine x_c rfl ?_
            refine x_icne rfl (fun c => ?_) (fun c => absurd c (by decide))
            refine x_al rfl rfl ?_
            refine x_get rfl (rw_md hn) (by exact rfl) ?_
            refine x_il rfl rfl ?_
            refine x_c rfl ?_
            first | refine x_subN (y := 1) rfl (by omega) ?_ | refine x_sub rfl ?_
            first | refine x_baN rfl (rw_A hn (by exact rfl)) (by omega) ?_ | refine x_zaN rfl (by first | exact rw_md hn | exact rw_w hn | exact rw_A hn (by exact rfl) | exact rw_B2 hn | exact rw_B3 hn | assumption) (by omega) ?_
            rw [show udA A 1436 mt 1436 (r.length + 1 - 1) = mt r.length from rfl, hm.2.1]
            have h65 := fun z e => fin z r 110 (Or.inr rfl) e hm.2.2 ho (by omega)
            refine x_ifne rfl (fun c1 => ?_) (fun c1 => ?_)
            · refine x_c rfl ?_
              refine x_go rfl ?_
              have ha : a = true := by cases a with
                | true => rfl
                | false => exact absurd rfl c1
              subst ha
              exact h65 true rfl
            refine x_al rfl rfl ?_
            refine x_get rfl (rw_md hn) (by exact rfl) ?_
            refine x_il rfl rfl ?_
            first | refine x_baN rfl (rw_A hn (by exact rfl)) (by omega) ?_ | refine x_zaN rfl (by first | exact rw_md hn | exact rw_w hn | exact rw_A hn (by exact rfl) | exact rw_B2 hn | exact rw_B3 hn | assumption) (by omega) ?_
            have ha : a = false := bI_z.mp c1
            subst ha
            rw [show udA A 1436 mt 1436 (r.length + 1) = bI b from hm.1]
            refine x_ifeq rfl (fun c2 => ?_) (fun c2 => ?_)
            · refine x_c rfl ?_
              exact h65 false (by show (false || b) :: r = false :: r; rw [bI_z.mp c2]; rfl)
            refine x_c rfl ?_
            refine x_go rfl ?_
            have hb : b = true := by cases b with
              | true => rfl
              | false => exact absurd rfl c2
            subst hb
            exact h65 true rfl
    · rw [hx] at h0
      subst h0
      have hq3 : q < 205 := by omega
      have e300 : ¬ nI q = 300 := fun h => by have := (nI_eq (b := 300) (by omega) (by omega)).mp h; omega
      have e301 : ¬ 301 ≤ nI q := fun h => by have := (nI_leI (a := 301) (by omega) (by omega)).mp h; omega
      have hst : stepH tg (A 1435) (nI q) than st = valH tg (A 1435) (nI q) than :: st := by unfold stepH; rw [if_neg e300, if_neg e301]
      have hv : ∀ z, valH tg (A 1435) (nI q) than = z → stepH tg (A 1435) (nI q) than st = z :: st := fun z h => by rw [hst, h]
      refine x_icne rfl (fun c => ?_) (fun c => absurd c e300)
      refine x_il rfl rfl ?_
      refine x_c rfl ?_
      refine x_iclt rfl (fun c => ?_) (fun c => absurd (Int32.not_le.mp e301) c)
      refine x_al rfl rfl ?_
      refine x_get rfl (rw_md hn) (by exact rfl) ?_
      refine x_il rfl rfl ?_
      refine x_il rfl rfl ?_
      refine x_c rfl ?_
      refine x_icgeN (y := 4) rfl (by omega) (fun c1 => ?_) (fun c1 => ?_)
      rotate_left
      · refine x_al rfl rfl ?_
        refine x_get rfl (rw_md hn) (by exact rfl) ?_
        refine x_il rfl rfl ?_
        first | refine x_baN rfl (rw_A hn (by exact rfl)) (by omega) ?_ | refine x_zaN rfl (by first | exact rw_md hn | exact rw_w hn | exact rw_A hn (by exact rfl) | exact rw_B2 hn | exact rw_B3 hn | assumption) (by omega) ?_
        refine x_go rfl ?_
        rw [show udA A 1436 mt 1434 q = A 1434 q from rfl, htg q c1]
        exact push _ (hv _ (by unfold valH; rw [if_pos (show nI q < 4 from (nI_ltI (b := 4) (by omega) (by omega)).mpr c1), nI_clamp (by omega)])) ho h1
      refine x_il rfl rfl ?_
      refine x_c rfl ?_
      have f4 : ¬ nI q < 4 := fun h => by have := (nI_ltI (b := 4) (by omega) (by omega)).mp h; omega
      refine x_icgeN (y := 200) rfl (by omega) (fun c2 => ?_) (fun c2 => ?_)
      rotate_left
      · refine x_al rfl rfl ?_
        refine x_get rfl (rw_md hn) (by exact rfl) ?_
        refine x_il rfl rfl ?_
        refine x_c rfl ?_
        first | refine x_subN (y := 100) rfl (by omega) ?_ | refine x_sub rfl ?_
        refine x_iaN rfl (by first | exact rw_md hn | exact rw_w hn | exact rw_A hn (by exact rfl) | exact rw_B2 hn | exact rw_B3 hn | assumption) (by omega) ?_
        refine x_il rfl rfl ?_
        have e2 : (nI q - 100).toNatClampNeg = q - 100 := by rw [show nI q - 100 = nI (q - 100) from pk_sub (b := 100) (by omega), nI_clamp (by omega)]
        have f200 : nI q < 200 := (nI_ltI (b := 200) (by omega) (by omega)).mpr c2
        rw [show udA A 1436 mt 1435 (q - 100) = A 1435 (q - 100) from rfl]
        refine x_icge rfl (fun c3 => ?_) (fun c3 => ?_)
        · refine x_c rfl ?_
          refine x_go rfl ?_
          exact push false (hv _ (by unfold valH; rw [if_neg f4, if_pos f200, e2, decide_eq_false (Int32.not_lt.mpr c3)])) ho h1
        refine x_c rfl ?_
        refine x_go rfl ?_
        exact push true (hv _ (by unfold valH; rw [if_neg f4, if_pos f200, e2, decide_eq_true (Int32.not_le.mp c3)])) ho h1
      refine x_al rfl rfl ?_
      refine x_get rfl (rw_md hn) (by exact rfl) ?_
      refine x_il rfl rfl ?_
      refine x_c rfl ?_
      first | refine x_subN (y := 200) rfl (by omega) ?_ | refine x_sub rfl ?_
      refine x_iaN rfl (by first | exact rw_md hn | exact rw_w hn | exact rw_A hn (by exact rfl) | exact rw_B2 hn | exact rw_B3 hn | assumption) (by omega) ?_
      refine x_il rfl rfl ?_
      have e2 : (nI q - 200).toNatClampNeg = q - 200 := by rw [show nI q - 200 = nI (q - 200) from pk_sub (b := 200) (by omega), nI_clamp (by omega)]
      have f200 : ¬ nI q < 200 := fun h => by have := (nI_ltI (b := 200) (by omega) (by omega)).mp h; omega
      rw [show udA A 1436 mt 1435 (q - 200) = A 1435 (q - 200) from rfl]
      refine x_icle rfl (fun c3 => ?_) (fun c3 => ?_)
      · refine x_c rfl ?_
        exact push false (hv _ (by unfold valH; rw [if_neg f4, if_neg f200, e2, decide_eq_false (Int32.not_lt.mpr c3)])) ho h1
      refine x_c rfl ?_
      refine x_go rfl ?_
      exact push true (hv _ (by unfold valH; rw [if_neg f4, if_neg f200, e2, decide_eq_true (Int32.not_le.mp c3)])) ho h1
  have := loop 0 (Nat.zero_le _) (A 1436) none none trivial hok (Nat.zero_le _)
  rw [udA_self] at this
  exact this
end HOLDS
