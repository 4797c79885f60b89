/-! first rule that holds, last number, facts -/
def rl (t k : Nat) : Nat := 12826 + 850 * t + 2 + 4 * k
def rulC (f : Nat → Int32) (t : Nat) : Nat := (f (12826 + 850 * t + 1)).toNatClampNeg
def holdR (f : Nat → Int32) (t k : Nat) (tg : Nat → Bool) (fc : Nat → Int32) : Bool := holdF f t tg fc (f (rl t k + 2)).toNatClampNeg (f (rl t k + 3)).toNatClampNeg
/-- a rule as it should be: its code runs from s to e -/
def okR (f : Nat → Int32) (t k : Nat) : Prop := ∃ s e, f (rl t k + 2) = nI s ∧ f (rl t k + 3) = nI e ∧ s ≤ e ∧ e ≤ 400 ∧ okH f t (e - s) s 0
def okT (f : Nat → Int32) (t : Nat) : Prop := ∃ r, r ≤ 12 ∧ f (12826 + 850 * t + 1) = nI r ∧ ∀ k, k < r → okR f t k
/-- the texts as they should be -/
def WT (f : Nat → Int32) (n : Nat) : Prop := f 12825 = nI n ∧ n ≤ 10 ∧ ∀ t, t < n → okT f t
def okO (f : Nat → Int32) : Option Nat → Prop
  | none => True
  | some t => t < 10 ∧ okT f t
theorem WT.best {f : Nat → Int32} {n : Nat} (h : WT f n) (day : Int32) : okO f (bestT f day n) := by
  match e : bestT f day n with
  | none => trivial
  | some t => have := bestT_lt n t e; exact ⟨by have := h.2.1; omega, h.2.2 t this⟩
theorem val_congr {tg tg' : Nat → Bool} {fc fc' : Nat → Int32} {q : Nat} {than : Int32} (hq : q < 4 ∨ (100 ≤ q ∧ q < 105) ∨ (200 ≤ q ∧ q < 205)) (h4 : ∀ k, k < 4 → tg k = tg' k) (h5 : ∀ k, k < 5 → fc k = fc' k) : valH tg fc (nI q) than = valH tg' fc' (nI q) than := by
  unfold valH
  by_cases c1 : q < 4
  · rw [if_pos (show nI q < 4 from (nI_ltI (b := 4) (by omega) (by omega)).mpr c1), if_pos (show nI q < 4 from (nI_ltI (b := 4) (by omega) (by omega)).mpr c1), nI_clamp (by omega), h4 q c1]
  · have f4 : ¬ nI q < 4 := fun h => by have := (nI_ltI (b := 4) (by omega) (by omega)).mp h; omega
    rw [if_neg f4, if_neg f4]
    by_cases c2 : q < 200
    · have e2 : (nI q - 100).toNatClampNeg = q - 100 := by rw [show nI q - 100 = nI (q - 100) from pk_sub (b := 100) (by omega), nI_clamp (by omega)]
      have f2 : nI q < 200 := (nI_ltI (b := 200) (by omega) (by omega)).mpr c2
      rw [if_pos f2, if_pos f2, e2, h5 _ (by omega)]
    · have e2 : (nI q - 200).toNatClampNeg = q - 200 := by rw [show nI q - 200 = nI (q - 200) from pk_sub (b := 200) (by omega), nI_clamp (by omega)]
      have f2 : ¬ nI q < 200 := fun h => by have := (nI_ltI (b := 200) (by omega) (by omega)).mp h; omega
      rw [if_neg f2, if_neg f2, e2, h5 _ (by omega)]
theorem step300 (tg : Nat → Bool) (fc : Nat → Int32) (than : Int32) (a : Bool) (r : List Bool) : stepH tg fc 300 than (a :: r) = (!a) :: r := rfl
theorem step301 (tg : Nat → Bool) (fc : Nat → Int32) (than : Int32) (a b : Bool) (r : List Bool) : stepH tg fc 301 than (b :: a :: r) = (a && b) :: r := rfl
theorem step302 (tg : Nat → Bool) (fc : Nat → Int32) (than : Int32) (a b : Bool) (r : List Bool) : stepH tg fc 302 than (b :: a :: r) = (a || b) :: r := rfl
theorem run_0 (f : Nat → Int32) (t : Nat) (tg : Nat → Bool) (fc : Nat → Int32) (s : Nat) : runH f t tg fc s 0 = [] := rfl
theorem run_congr {f : Nat → Int32} {t s n : Nat} {tg tg' : Nat → Bool} {fc fc' : Nat → Int32} (h4 : ∀ k, k < 4 → tg k = tg' k) (h5 : ∀ k, k < 5 → fc k = fc' k) (hok : okH f t n s 0) : ∀ k, k ≤ n → runH f t tg fc s k = runH f t tg' fc' s k ∧ okH f t (n - k) (s + k) (runH f t tg fc s k).length := by
  intro k
  induction k with
  | zero => intro _; rw [run_0, run_0]; exact ⟨rfl, hok⟩
  | succ k ih =>
    intro hk
    obtain ⟨e, ho⟩ := ih (by omega)
    obtain ⟨j, hj⟩ : ∃ j, n - k = j + 1 := ⟨n - k - 1, by omega⟩
    rw [hj] at ho
    have r1 : runH f t tg fc s (k + 1) = stepH tg fc (f (cd t (s + k))) (f (cd t (s + k) + 1)) (runH f t tg fc s k) := rfl
    have r2 : runH f t tg' fc' s (k + 1) = stepH tg' fc' (f (cd t (s + k))) (f (cd t (s + k) + 1)) (runH f t tg' fc' s k) := rfl
    rw [r1, r2, ← e, show n - (k + 1) = j by omega, show s + (k + 1) = s + k + 1 by omega]
    generalize runH f t tg fc s k = st at *
    generalize f (cd t (s + k) + 1) = than at *
    rcases ho with ⟨h0, h1, ho⟩ | ⟨h0, h1, ho⟩ | ⟨⟨q, hq, h0⟩, h1, ho⟩
    · rw [h0]
      cases st with
      | nil => exact absurd h1 (by decide)
      | cons a r => rw [step300, step300]; exact ⟨rfl, ho⟩
    · cases st with
      | nil => exact absurd h1 (by decide)
      | cons a r =>
        cases r with
        | nil => exact absurd h1 (show ¬ 2 ≤ 1 by decide)
        | cons b r =>
          rcases h0 with h0 | h0
          · rw [h0, step301, step301]; exact ⟨rfl, ho⟩
          · rw [h0, step302, step302]; exact ⟨rfl, ho⟩
    · rw [h0]
      have e300 : ¬ nI q = 300 := fun h => by have := (nI_eq (b := 300) (by omega) (by omega)).mp h; omega
      have e301 : ¬ 301 ≤ nI q := fun h => by have := (nI_leI (a := 301) (by omega) (by omega)).mp h; omega
      unfold stepH
      rw [if_neg e300, if_neg e301, if_neg e300, if_neg e301, val_congr hq h4 h5]
      exact ⟨rfl, ho⟩
theorem hold_congr {f : Nat → Int32} {t k : Nat} {tg tg' : Nat → Bool} {fc fc' : Nat → Int32} (h4 : ∀ k, k < 4 → tg k = tg' k) (h5 : ∀ k, k < 5 → fc k = fc' k) (h : okR f t k) : holdR f t k tg fc = holdR f t k tg' fc' := by
  obtain ⟨s, e, h1, h2, h3, h6, h7⟩ := h
  unfold holdR holdF
  rw [h1, h2, nI_clamp (by omega), nI_clamp (by omega), (run_congr h4 h5 h7 (e - s) (Nat.le_refl _)).1]
def firstF (f : Nat → Int32) (o : Option Nat) (sort : Int32) (tg : Nat → Bool) (fc : Nat → Int32) : Int32 := match o with
  | none => -1
  | some t => it (rulC f t) (fun k (_ : Unit) => if f (rl t k) = sort ∧ holdR f t k tg fc = true then .inr (nI k) else .inl ()) (fun _ => -1) 0 ()
def lastF (f : Nat → Int32) (o : Option Nat) (sort without : Int32) : Int32 := match o with
  | none => without
  | some t => acc (fun k v => if f (rl t k) = sort then f (rl t k + 1) else v) without (rulC f t)
theorem lastF_s (f : Nat → Int32) (t : Nat) (sort without : Int32) : lastF f (some t) sort without = acc (fun k v => if f (rl t k) = sort then f (rl t k + 1) else v) without (rulC f t) := rfl
def keepT (f : Nat → Int32) (o : Option Nat) (tg : Nat → Bool) (fc : Nat → Int32) : Int32 := match o with
  | none => 0
  | some t => acc (fun k v => if f (rl t k) = 4 ∧ holdR f t k tg fc = true then (if f (rl t k + 1) ≤ v then v else f (rl t k + 1)) else v) 0 (rulC f t)
/-- the rows that tags and facts lie in -/
def Fc (A : Nat → Nat → Int32) (tg : Nat → Bool) (fc : Nat → Int32) : Prop := (∀ k, k < 4 → A 1434 k = bI (tg k)) ∧ ∀ k, k < 5 → A 1435 k = fc k
theorem Fc.mt {A : Nat → Nat → Int32} {tg : Nat → Bool} {fc mt : Nat → Int32} (h : Fc A tg fc) : Fc (udA A 1436 mt) tg fc := h
section FIRST
variable {g : aG} {d : Nat} {w : aW} {m f : Nat → Int32} {A : Nat → Nat → Int32} {B : Nat → Nat → Int64}
theorem n_holdR {t n : Nat} {tg : Nat → Bool} {fc : Nat → Int32} (ht : t < 10) (hr : n < 12) (hok : okR f t n) (hF : Fc A tg fc) (hn : w.1 = N0) : Ev g (d + 3) 259 [.ref 1424, .int (nI t), .int (nI n)] (rW w m f A B) (fun v w' => v = some (.int (bI (holdR f t n tg fc))) ∧ ∃ mt, w' = rW w m f (udA A 1436 mt) B) noX := by
  rw [← hold_congr (tg := tg) (fc := A 1435) (fun _ _ => rfl) hF.2 hok]
  obtain ⟨s, e, h1, h2, h3, h6, h7⟩ := hok
  unfold holdR
  rw [h1, h2, nI_clamp (by omega), nI_clamp (by omega)]
  exact n_holds ht hr h1 h2 h3 h6 h7 hF.1 hn
theorem n_firstOf {o : Option Nat} {sort : Int32} {tg : Nat → Bool} {fc : Nat → Int32} (ho : okO f o) (hF : Fc A tg fc) (hn : w.1 = N0) : Ev g (d + 4) 260 [.ref 1424, .int (oI o), .int sort] (rW w m f A B) (fun v w' => v = some (.int (firstF f o sort tg fc)) ∧ ∃ mt, w' = rW w m f (udA A 1436 mt) B) noX := by
  have ho10 : ∀ t, o = some t → t < 10 := fun t h => by subst h; exact ho.1
  refine ev_X11_firstOf ?_ (Nat.le_of_ble_eq_true rfl)
  refine x_lo (lo' := [some (.ref 1424), some (.int (oI o)), some (.int sort), none]) rfl ?_
  refine x_c rfl ?_
  refine x_is (lo' := [_, _, _, _]) rfl (Nat.le_of_ble_eq_true rfl) rfl ?_
  cases o with
  | none =>
    refine x_il rfl rfl ?_
    refine x_al rfl rfl ?_
    refine x_il rfl rfl ?_
    refine x_call2 (n_rulesOf ho10 hn) rfl (Nat.le_of_ble_eq_true rfl) (Or.inl (by first | exact hn | assumption)) (rcv_at (by first | exact rw_md hn | exact rw_w hn | exact rw_A hn (by exact rfl) | exact rw_B2 hn | exact rw_B3 hn | assumption) (by decide) (by decide)) (Nat.le_of_ble_eq_true rfl) (Nat.le_of_ble_eq_true rfl) (fun E w9 hq => hq.elim) ?_
    rintro v9 w9 ⟨rfl, rfl⟩
    refine x_icge rfl (fun c => ?_) (fun c => absurd (show (0 : Int32) ≤ 0 by decide) c)
    refine x_c rfl ?_
    refine x_reti rfl (Nat.le_of_ble_eq_true rfl) (Nat.le_of_ble_eq_true rfl) rfl ?_
    exact ⟨rfl, A 1436, by rw [udA_self]⟩
  | some t =>
    obtain ⟨ht, r, hr, hc, hk⟩ := ho
    have hrc : rulC f t = r := by unfold rulC; rw [hc, nI_clamp (by omega)]
    have loop : ∀ k, k ≤ r → ∀ mt, EX g mbOf (Ev g (d + 3)) (infoOf 260) k_X11_firstOf (fun v w' => v = some (.int (it (rulC f t) (fun k (_ : Unit) => if f (rl t k) = sort ∧ holdR f t k tg fc = true then .inr (nI k) else .inl ()) (fun _ => -1) k ())) ∧ ∃ mt, w' = rW w m f (udA A 1436 mt) B) noX w.1 (rW w m f (udA A 1436 mt) B) 0 0 2 [some (.ref 1424), some (.int (oI (some t))), some (.int sort), some (.int (nI k))] [] := by
      rw [hrc]
      refine downN r fun k hkr ih => ?_
      intro mt
      refine x_il rfl rfl ?_
      refine x_al rfl rfl ?_
      refine x_il rfl rfl ?_
      refine x_call2 (n_rulesOf ho10 hn) rfl (Nat.le_of_ble_eq_true rfl) (Or.inl (by first | exact hn | assumption)) (rcv_at (by first | exact rw_md hn | exact rw_w hn | exact rw_A hn (by exact rfl) | exact rw_B2 hn | exact rw_B3 hn | assumption) (by decide) (by decide)) (Nat.le_of_ble_eq_true rfl) (Nat.le_of_ble_eq_true rfl) (fun E w9 hq => hq.elim) ?_
      rintro v9 w9 ⟨rfl, rfl⟩
      rw [show rulN f (some t) = nI r from hc]
      refine x_icgeN rfl (by omega) (fun c => ?_) (fun c => ?_)
      · refine x_c rfl ?_
        refine x_reti rfl (Nat.le_of_ble_eq_true rfl) (Nat.le_of_ble_eq_true rfl) rfl ?_
        exact ⟨by rw [it_end c], mt, rfl⟩
      refine x_al rfl rfl ?_
      refine x_get rfl (rw_md hn) (by exact rfl) ?_
      refine x_il rfl rfl ?_
      refine x_il rfl rfl ?_
      rw [show oI (some t) = nI t from rfl]
      refine x_call2 (m_ruleAt hn) rfl (Nat.le_of_ble_eq_true rfl) (Or.inl (by first | exact hn | assumption)) trivial (Nat.le_of_ble_eq_true rfl) (Nat.le_of_ble_eq_true rfl) (fun E w9 hq => hq.elim) ?_
      rintro v9 w9 ⟨rfl, rfl⟩
      refine x_iaN rfl (by first | exact rw_md hn | exact rw_w hn | exact rw_A hn (by exact rfl) | exact rw_B2 hn | exact rw_B3 hn | assumption) (by omega) ?_
      refine x_il rfl rfl ?_
      refine x_icne rfl (fun c1 => ?_) (fun c1 => ?_)
      · refine x_inc1 (lo' := [_, _, _, _]) rfl rfl rfl ?_
        refine x_go rfl ?_
        have := ih c mt
        rw [← it_go c (s := ()) (if_neg (fun h => c1 h.1))] at this
        exact this
      refine x_al rfl rfl ?_
      refine x_il rfl rfl ?_
      refine x_il rfl rfl ?_
      refine x_call3 (n_holdR ht (by omega) (hk k c) hF.mt hn) rfl (Nat.le_of_ble_eq_true rfl) (Or.inl (by first | exact hn | assumption)) (rcv_at (by first | exact rw_md hn | exact rw_w hn | exact rw_A hn (by exact rfl) | exact rw_B2 hn | exact rw_B3 hn | assumption) (by decide) (by decide)) (Nat.le_of_ble_eq_true rfl) (Nat.le_of_ble_eq_true rfl) (fun E w9 hq => hq.elim) ?_
      rintro v9 w9 ⟨rfl, mt2, rfl⟩
      rw [udA_udA]
      refine x_ifeq rfl (fun c2 => ?_) (fun c2 => ?_)
      · refine x_inc1 (lo' := [_, _, _, _]) rfl rfl rfl ?_
        refine x_go rfl ?_
        have := ih c mt2
        rw [← it_go c (s := ()) (if_neg (fun h => by rw [bI_z.mp c2] at h; exact absurd h.2 (by decide)))] at this
        exact this
      refine x_il rfl rfl ?_
      refine x_reti rfl (Nat.le_of_ble_eq_true rfl) (Nat.le_of_ble_eq_true rfl) rfl ?_
      have c3 : holdR f t k tg fc = true := by
        cases hh : holdR f t k tg fc with
        | true => rfl
        | false => rw [hh] at c2; exact absurd rfl c2
      exact ⟨by rw [it_ret c (if_pos ⟨c1, c3⟩)], mt2, rfl⟩
    have := loop 0 (Nat.zero_le _) (A 1436)
    rw [udA_self] at this
    exact this
theorem n_lastNumber {day sort without : Int32} {n : Nat} (hT : WT f n) (hn : w.1 = N0) : Ev g (d + 3) 261 [.ref 1424, .int day, .int sort, .int without] (rW w m f A B) (RetQ (lastF f (bestT f day n) sort without) (rW w m f A B)) noX := by
  refine ev_X11_lastNumber ?_ (Nat.le_of_ble_eq_true rfl)
  refine x_lo (lo' := [some (.ref 1424), some (.int day), some (.int sort), some (.int without), none, none, none]) rfl ?_
  refine x_al rfl rfl ?_
  refine x_il rfl rfl ?_
  refine x_call2 (n_textOf hT.1 hT.2.1 hn) rfl (Nat.le_of_ble_eq_true rfl) (Or.inl (by first | exact hn | assumption)) (rcv_at (by first | exact rw_md hn | exact rw_w hn | exact rw_A hn (by exact rfl) | exact rw_B2 hn | exact rw_B3 hn | assumption) (by decide) (by decide)) (Nat.le_of_ble_eq_true rfl) (Nat.le_of_ble_eq_true rfl) (fun E w9 hq => hq.elim) ?_
  rintro v9 w9 ⟨rfl, rfl⟩
  refine x_is (lo' := [_, _, _, _, _, _, _]) rfl (Nat.le_of_ble_eq_true rfl) rfl ?_
  refine x_il rfl rfl ?_
  refine x_is (lo' := [_, _, _, _, _, _, _]) rfl (Nat.le_of_ble_eq_true rfl) rfl ?_
  refine x_c rfl ?_
  refine x_is (lo' := [_, _, _, _, _, _, _]) rfl (Nat.le_of_ble_eq_true rfl) rfl ?_
  have ho := hT.best day
  generalize bestT f day n = o at *
  have ho10 : ∀ t, o = some t → t < 10 := fun t h => by subst h; exact ho.1
  cases o with
  | none =>
    refine x_il rfl rfl ?_
    refine x_al rfl rfl ?_
    refine x_il rfl rfl ?_
    refine x_call2 (n_rulesOf ho10 hn) rfl (Nat.le_of_ble_eq_true rfl) (Or.inl (by first | exact hn | assumption)) (rcv_at (by first | exact rw_md hn | exact rw_w hn | exact rw_A hn (by exact rfl) | exact rw_B2 hn | exact rw_B3 hn | assumption) (by decide) (by decide)) (Nat.le_of_ble_eq_true rfl) (Nat.le_of_ble_eq_true rfl) (fun E w9 hq => hq.elim) ?_
    rintro v9 w9 ⟨rfl, rfl⟩
    refine x_icge rfl (fun c => ?_) (fun c => absurd (show (0 : Int32) ≤ 0 by decide) c)
    refine x_il rfl rfl ?_
    refine x_reti rfl (Nat.le_of_ble_eq_true rfl) (Nat.le_of_ble_eq_true rfl) rfl ?_
    exact ⟨rfl, rfl⟩
  | some t =>
    obtain ⟨ht, r, hr, hc, hk⟩ := ho
    have hrc : rulC f t = r := by unfold rulC; rw [hc, nI_clamp (by omega)]
    rw [lastF_s, hrc]
    have loop : ∀ k, k ≤ r → EX g mbOf (Ev g (d + 2)) (infoOf 261) k_X11_lastNumber (RetQ (acc (fun k v => if f (rl t k) = sort then f (rl t k + 1) else v) without r) (rW w m f A B)) noX w.1 (rW w m f A B) 0 0 8 [some (.ref 1424), some (.int day), some (.int sort), some (.int without), some (.int (oI (some t))), some (.int (acc (fun k v => if f (rl t k) = sort then f (rl t k + 1) else v) without k)), some (.int (nI k))] [] := by
      refine downN r fun k hkr ih => ?_
      refine x_il rfl rfl ?_
      refine x_al rfl rfl ?_
      refine x_il rfl rfl ?_
      refine x_call2 (n_rulesOf ho10 hn) rfl (Nat.le_of_ble_eq_true rfl) (Or.inl (by first | exact hn | assumption)) (rcv_at (by first | exact rw_md hn | exact rw_w hn | exact rw_A hn (by exact rfl) | exact rw_B2 hn | exact rw_B3 hn | assumption) (by decide) (by decide)) (Nat.le_of_ble_eq_true rfl) (Nat.le_of_ble_eq_true rfl) (fun E w9 hq => hq.elim) ?_
      rintro v9 w9 ⟨rfl, rfl⟩
      rw [show rulN f (some t) = nI r from hc]
      refine x_icgeN rfl (by omega) (fun c => ?_) (fun c => ?_)
      · refine x_il rfl rfl ?_
        refine x_reti rfl (Nat.le_of_ble_eq_true rfl) (Nat.le_of_ble_eq_true rfl) rfl ?_
        obtain rfl : k = r := by omega
        exact ⟨rfl, rfl⟩
      refine x_al rfl rfl ?_
      refine x_get rfl (rw_md hn) (by exact rfl) ?_
      refine x_il rfl rfl ?_
      refine x_il rfl rfl ?_
      rw [show oI (some t) = nI t from rfl]
      refine x_call2 (m_ruleAt hn) rfl (Nat.le_of_ble_eq_true rfl) (Or.inl (by first | exact hn | assumption)) trivial (Nat.le_of_ble_eq_true rfl) (Nat.le_of_ble_eq_true rfl) (fun E w9 hq => hq.elim) ?_
      rintro v9 w9 ⟨rfl, rfl⟩
      refine x_iaN rfl (by first | exact rw_md hn | exact rw_w hn | exact rw_A hn (by exact rfl) | exact rw_B2 hn | exact rw_B3 hn | assumption) (by omega) ?_
      refine x_il rfl rfl ?_
      have ih := ih c
      rw [acc_s] at ih
      refine x_icne rfl (fun c1 => ?_) (fun c1 => ?_)
      · refine x_inc1 (lo' := [_, _, _, _, _, _, _]) rfl rfl rfl ?_
        refine x_go rfl ?_
        rw [show (if f (rl t k) = sort then _ else _) = _ from if_neg c1] at ih
        exact ih
      refine x_al rfl rfl ?_
      refine x_get rfl (rw_md hn) (by exact rfl) ?_
      refine x_il rfl rfl ?_
      refine x_il rfl rfl ?_
      rw [show (if f (rl t k) = sort then _ else _) = _ from if_pos c1] at ih
      refine x_call2 (m_ruleAt hn) rfl (Nat.le_of_ble_eq_true rfl) (Or.inl (by first | exact hn | assumption)) trivial (Nat.le_of_ble_eq_true rfl) (Nat.le_of_ble_eq_true rfl) (fun E w9 hq => hq.elim) ?_
      rintro v9 w9 ⟨rfl, rfl⟩
      refine x_c rfl ?_
      refine x_addN (y := 1) rfl ?_
      refine x_iaN rfl (by first | exact rw_md hn | exact rw_w hn | exact rw_A hn (by exact rfl) | exact rw_B2 hn | exact rw_B3 hn | assumption) (by omega) ?_
      refine x_is (lo' := [_, _, _, _, _, _, _]) rfl (Nat.le_of_ble_eq_true rfl) rfl ?_
      refine x_inc1 (lo' := [_, _, _, _, _, _, _]) rfl rfl rfl ?_
      refine x_go rfl ?_
      exact ih
    exact loop 0 (Nat.zero_le _)
end FIRST
