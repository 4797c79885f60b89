/-! a print's corners, pattern, ridges, class: cells are f (5 + 97 p + 8 y + x) -/
def cel (f : Nat → Int32) (p x y k : Nat) : Int32 := f (5 + 97 * p + 8 * arY y k + arX x k)
def stp (a b : Int32) : Int32 := fMod (b - a) 8
def adj (s : Int32) : Int32 := if 4 < s then s - 8 else s
abbrev bad (a b : Int32) : Prop := a < 0 ∨ b < 0 ∨ stp a b = 4
def turnV (a b c d : Int32) : Int32 := if bad a b ∨ bad b c ∨ bad c d ∨ bad d a then -1 else 0 + adj (stp a b) + adj (stp b c) + adj (stp c d) + adj (stp d a)
/-- how directions turn around corner c of print p -/
def turnF (f : Nat → Int32) (p c : Nat) : Int32 := turnV (cel f p (c % 7 + 1) (c / 7 + 1) 0) (cel f p (c % 7 + 1) (c / 7 + 1) 1) (cel f p (c % 7 + 1) (c / 7 + 1) 2) (cel f p (c % 7 + 1) (c / 7 + 1) 3)
/-- the corner at which the n-th turn t is, -1 for none -/
def sinF (tu : Nat → Int32) (t n : Int32) : Int32 := it 49 (fun c (many : Nat) => if tu c = t then (if nI many = n then .inr (nI c) else .inl (many + 1)) else .inl many) (fun _ => -1) 0 0
def rem7 (x : Int32) : Int32 := x - x / 7 * 7
def patF (tu : Nat → Int32) : Int32 := if cn (fun c => tu c == 8) 49 = 0 ∧ cn (fun c => tu c == -8) 49 = 0 then 0 else if cn (fun c => tu c == 8) 49 = 2 ∧ cn (fun c => tu c == -8) 49 = 2 then 4 else if ¬ cn (fun c => tu c == 8) 49 = 1 ∨ ¬ cn (fun c => tu c == -8) 49 = 1 then 5 else if rem7 (sinF tu 8 0) = rem7 (sinF tu (-8) 0) then 1 else if rem7 (sinF tu 8 0) < rem7 (sinF tu (-8) 0) then 2 else 3
section PRINT
variable {g : aG} {d : Nat} {w : aW} {m f : Nat → Int32} {A : Nat → Nat → Int32} {B : Nat → Nat → Int64}
theorem n_turnOf {p c : Nat} (hp : p < 60) (hc : c < 49) (hn : w.1 = N0) : Ev g (d + 4) 202 [.ref 1424, .int (nI p), .int (nI c)] (rW w m f A B) (RetQ (turnF f p c) (rW w m f A B)) noX := by
  have hx : 1 ≤ c % 7 + 1 ∧ c % 7 + 1 < 8 := by omega
  have hy : 1 ≤ c / 7 + 1 ∧ c / 7 + 1 < 8 := by omega
  refine ev_X11_turnOf ?_ (Nat.le_of_ble_eq_true rfl)
  refine x_lo (lo' := [some (.ref 1424), some (.int (nI p)), some (.int (nI c)), none, none, none, none, none, none, none]) rfl ?_
  refine x_il rfl rfl ?_
  refine x_c rfl ?_
  refine x_remN (y := 7) rfl (by omega) ?_
  refine x_c rfl ?_
  refine x_addN (y := 1) rfl ?_
  refine x_is (lo' := [_, _, _, _, _, _, _, _, _, _]) rfl (Nat.le_of_ble_eq_true rfl) rfl ?_
  refine x_il rfl rfl ?_
  refine x_c rfl ?_
  refine x_divN (y := 7) rfl (by omega) ?_
  refine x_c rfl ?_
  refine x_addN (y := 1) rfl ?_
  refine x_is (lo' := [_, _, _, _, _, _, _, _, _, _]) rfl (Nat.le_of_ble_eq_true rfl) rfl ?_
  refine x_c rfl ?_
  refine x_is (lo' := [_, _, _, _, _, _, _, _, _, _]) rfl (Nat.le_of_ble_eq_true rfl) rfl ?_
  refine x_c rfl ?_
  refine x_is (lo' := [_, _, _, _, _, _, _, _, _, _]) rfl (Nat.le_of_ble_eq_true rfl) rfl ?_
  unfold turnF
  generalize c % 7 + 1 = x at *
  generalize c / 7 + 1 = y at *
  have iter : ∀ (V : Int32) k, k < 4 → ∀ s : Int32, (bad (cel f p x y k) (cel f p x y ((k + 1) % 4)) → V = -1) → (∀ lo7 lo8 lo9, ¬ bad (cel f p x y k) (cel f p x y ((k + 1) % 4)) → EX g mbOf (Ev g (d + 3)) (infoOf 202) k_X11_turnOf (RetQ V (rW w m f A B)) noX w.1 (rW w m f A B) 0 0 16 [some (.ref 1424), some (.int (nI p)), some (.int (nI c)), some (.int (nI x)), some (.int (nI y)), some (.int (s + adj (stp (cel f p x y k) (cel f p x y ((k + 1) % 4))))), some (.int (nI (k + 1))), some (.int lo7), some (.int lo8), some (.int lo9)] []) → ∀ o7 o8 o9, EX g mbOf (Ev g (d + 3)) (infoOf 202) k_X11_turnOf (RetQ V (rW w m f A B)) noX w.1 (rW w m f A B) 0 0 16 [some (.ref 1424), some (.int (nI p)), some (.int (nI c)), some (.int (nI x)), some (.int (nI y)), some (.int s), some (.int (nI k)), o7, o8, o9] [] := by
    intro V k hk s h1 h2 o7 o8 o9
    refine x_il rfl rfl ?_
    refine x_c rfl ?_
    refine x_icgeN (y := 4) rfl (by omega) (fun c => absurd c (by omega)) (fun c => ?_)
    refine x_al rfl rfl ?_
    refine x_il rfl rfl ?_
    refine x_il rfl rfl ?_
    refine x_il rfl rfl ?_
    refine x_il rfl rfl ?_
    refine x_call5 (m_around (rw_old hn) hp hx hy hk hn) rfl (Nat.le_of_ble_eq_true rfl) (Or.inl (by first | exact hn | assumption)) (rcv_at (by first | exact rw_md hn | exact rw_w hn | exact rw_A hn (by exact rfl) | exact rw_B2 hn | exact rw_B3 hn | assumption) (by decide) (by decide)) (Nat.le_of_ble_eq_true rfl) (Nat.le_of_ble_eq_true rfl) (fun E w9 hq => hq.elim) ?_
    rintro v9 w9 ⟨rfl, rfl⟩
    refine x_is (lo' := [_, _, _, _, _, _, _, _, _, _]) rfl (Nat.le_of_ble_eq_true rfl) rfl ?_
    refine x_al rfl rfl ?_
    refine x_il rfl rfl ?_
    refine x_il rfl rfl ?_
    refine x_il rfl rfl ?_
    refine x_il rfl rfl ?_
    refine x_c rfl ?_
    refine x_addN (y := 1) rfl ?_
    refine x_c rfl ?_
    refine x_remN (y := 4) rfl (by omega) ?_
    refine x_call5 (m_around (rw_old hn) hp hx hy (Nat.mod_lt _ (by decide)) hn) rfl (Nat.le_of_ble_eq_true rfl) (Or.inl (by first | exact hn | assumption)) (rcv_at (by first | exact rw_md hn | exact rw_w hn | exact rw_A hn (by exact rfl) | exact rw_B2 hn | exact rw_B3 hn | assumption) (by decide) (by decide)) (Nat.le_of_ble_eq_true rfl) (Nat.le_of_ble_eq_true rfl) (fun E w9 hq => hq.elim) ?_
    rintro v9 w9 ⟨rfl, rfl⟩
    refine x_is (lo' := [_, _, _, _, _, _, _, _, _, _]) rfl (Nat.le_of_ble_eq_true rfl) rfl ?_
    refine x_il rfl rfl ?_
    refine x_iflt rfl (fun c1 => ?_) (fun c1 => ?_)
    · refine x_c rfl ?_
      refine x_reti rfl (Nat.le_of_ble_eq_true rfl) (Nat.le_of_ble_eq_true rfl) rfl ?_
      exact ⟨by rw [h1 (Or.inl c1)], rfl⟩
    refine x_il rfl rfl ?_
    refine x_ifge rfl (fun c2 => ?_) (fun c2 => ?_)
    rotate_left
    · refine x_c rfl ?_
      refine x_reti rfl (Nat.le_of_ble_eq_true rfl) (Nat.le_of_ble_eq_true rfl) rfl ?_
      exact ⟨by rw [h1 (Or.inr (Or.inl (Int32.not_le.mp c2)))], rfl⟩
    refine x_il rfl rfl ?_
    refine x_il rfl rfl ?_
    refine x_sub rfl ?_
    refine x_c rfl ?_
    refine x_call2 (m_floorMod (by decide)) rfl (Nat.le_of_ble_eq_true rfl) (Or.inl (by first | exact hn | assumption)) trivial (Nat.le_of_ble_eq_true rfl) (Nat.le_of_ble_eq_true rfl) (fun E w9 hq => hq.elim) ?_
    rintro v9 w9 ⟨rfl, rfl⟩
    refine x_is (lo' := [_, _, _, _, _, _, _, _, _, _]) rfl (Nat.le_of_ble_eq_true rfl) rfl ?_
    refine x_il rfl rfl ?_
    refine x_c rfl ?_
    refine x_icne rfl (fun c3 => ?_) (fun c3 => ?_)
    rotate_left
    · refine x_c rfl ?_
      refine x_reti rfl (Nat.le_of_ble_eq_true rfl) (Nat.le_of_ble_eq_true rfl) rfl ?_
      exact ⟨by rw [h1 (Or.inr (Or.inr c3))], rfl⟩
    refine x_il rfl rfl ?_
    refine x_il rfl rfl ?_
    refine x_c rfl ?_
    have hb : ¬ bad (cel f p x y k) (cel f p x y ((k + 1) % 4)) := fun h => h.elim c1 (fun h => h.elim (fun h => absurd c2 (Int32.not_le.mpr h)) c3)
    refine x_icle rfl (fun c4 => ?_) (fun c4 => ?_)
    · refine x_il rfl rfl ?_
      refine x_add rfl ?_
      refine x_is (lo' := [_, _, _, _, _, _, _, _, _, _]) rfl (Nat.le_of_ble_eq_true rfl) rfl ?_
      refine x_inc1 (lo' := [_, _, _, _, _, _, _, _, _, _]) rfl rfl rfl ?_
      refine x_go rfl ?_
      have := h2
      rw [show adj (stp (cel f p x y k) (cel f p x y ((k + 1) % 4))) = stp (cel f p x y k) (cel f p x y ((k + 1) % 4)) from if_neg (Int32.not_lt.mpr c4)] at this
      exact this _ _ _ hb
    refine x_il rfl rfl ?_
    refine x_c rfl ?_
    refine x_sub rfl ?_
    refine x_go rfl ?_
    refine x_add rfl ?_
    refine x_is (lo' := [_, _, _, _, _, _, _, _, _, _]) rfl (Nat.le_of_ble_eq_true rfl) rfl ?_
    refine x_inc1 (lo' := [_, _, _, _, _, _, _, _, _, _]) rfl rfl rfl ?_
    refine x_go rfl ?_
    have := h2
    rw [show adj (stp (cel f p x y k) (cel f p x y ((k + 1) % 4))) = stp (cel f p x y k) (cel f p x y ((k + 1) % 4)) - 8 from if_pos (Int32.not_le.mp c4)] at this
    exact this _ _ _ hb
  refine iter _ 0 (by decide) 0 (fun h => if_pos (Or.inl h)) (fun _ _ _ b0 => ?_) _ _ _
  refine iter _ 1 (by decide) _ (fun h => if_pos (Or.inr (Or.inl h))) (fun _ _ _ b1 => ?_) _ _ _
  refine iter _ 2 (by decide) _ (fun h => if_pos (Or.inr (Or.inr (Or.inl h)))) (fun _ _ _ b2 => ?_) _ _ _
  refine iter _ 3 (by decide) _ (fun h => if_pos (Or.inr (Or.inr (Or.inr h)))) (fun _ _ _ b3 => ?_) _ _ _
  refine x_il rfl rfl ?_
  refine x_c rfl ?_
  refine x_icgeN (y := 4) rfl (by omega) (fun c => ?_) (fun c => absurd c (by decide))
  refine x_il rfl rfl ?_
  refine x_reti rfl (Nat.le_of_ble_eq_true rfl) (Nat.le_of_ble_eq_true rfl) rfl ?_
  exact ⟨by rw [if_neg (fun h => h.elim b0 (fun h => h.elim b1 (fun h => h.elim b2 b3)))], rfl⟩
theorem n_singularOf {p : Nat} {t n : Int32} (hp : p < 60) (hn : w.1 = N0) : Ev g (d + 5) 204 [.ref 1424, .int (nI p), .int n, .int t] (rW w m f A B) (RetQ (sinF (turnF f p) t n) (rW w m f A B)) noX := by
  refine ev_X11_singularOf ?_ (Nat.le_of_ble_eq_true rfl)
  refine x_lo (lo' := [some (.ref 1424), some (.int (nI p)), some (.int n), some (.int t), none, none]) rfl ?_
  refine x_c rfl ?_
  refine x_is (lo' := [_, _, _, _, _, _]) rfl (Nat.le_of_ble_eq_true rfl) rfl ?_
  refine x_c rfl ?_
  refine x_is (lo' := [_, _, _, _, _, _]) rfl (Nat.le_of_ble_eq_true rfl) rfl ?_
  unfold sinF
  have loop : ∀ c, c ≤ 49 → ∀ many : Nat, many ≤ c → EX g mbOf (Ev g (d + 4)) (infoOf 204) k_X11_singularOf (RetQ (it 49 (fun c (many : Nat) => if turnF f p c = t then (if nI many = n then .inr (nI c) else .inl (many + 1)) else .inl many) (fun _ => -1) c many) (rW w m f A B)) noX w.1 (rW w m f A B) 0 0 4 [some (.ref 1424), some (.int (nI p)), some (.int n), some (.int t), some (.int (nI many)), some (.int (nI c))] [] := by
    refine downN 49 fun c hc ih => ?_
    intro many hm
    refine x_il rfl rfl ?_
    refine x_c rfl ?_
    refine x_icgeN (y := 49) rfl (by omega) (fun c1 => ?_) (fun c1 => ?_)
    · refine x_c rfl ?_
      refine x_reti rfl (Nat.le_of_ble_eq_true rfl) (Nat.le_of_ble_eq_true rfl) rfl ?_
      exact ⟨by rw [it_end c1], rfl⟩
    refine x_al rfl rfl ?_
    refine x_il rfl rfl ?_
    refine x_il rfl rfl ?_
    refine x_call3 (n_turnOf hp c1 hn) rfl (Nat.le_of_ble_eq_true rfl) (Or.inl (by first | exact hn | assumption)) (rcv_at (by first | exact rw_md hn | exact rw_w hn | exact rw_A hn (by exact rfl) | exact rw_B2 hn | exact rw_B3 hn | assumption) (by decide) (by decide)) (Nat.le_of_ble_eq_true rfl) (Nat.le_of_ble_eq_true rfl) (fun E w9 hq => hq.elim) ?_
    rintro v9 w9 ⟨rfl, rfl⟩
    refine x_il rfl rfl ?_
    refine x_iceq rfl (fun c2 => ?_) (fun c2 => ?_)
    rotate_left
    · refine x_go rfl ?_
      refine x_inc1 (lo' := [_, _, _, _, _, _]) rfl rfl rfl ?_
      refine x_go rfl ?_
      have := ih c1 many (by omega)
      rw [← it_go c1 (if_neg c2)] at this
      exact this
    refine x_il rfl rfl ?_
    refine x_il rfl rfl ?_
    refine x_icne rfl (fun c3 => ?_) (fun c3 => ?_)
    rotate_left
    · refine x_il rfl rfl ?_
      refine x_reti rfl (Nat.le_of_ble_eq_true rfl) (Nat.le_of_ble_eq_true rfl) rfl ?_
      exact ⟨by rw [it_ret c1 (r := nI c)]; rw [if_pos c2, if_pos c3], rfl⟩
    refine x_inc1 (lo' := [_, _, _, _, _, _]) rfl rfl rfl ?_
    refine x_inc1 (lo' := [_, _, _, _, _, _]) rfl rfl rfl ?_
    refine x_go rfl ?_
    have := ih c1 (many + 1) (by omega)
    rw [← it_go c1 (s := many) (by rw [if_pos c2, if_neg c3])] at this
    exact this
  exact loop 0 (by decide) 0 (Nat.le_refl _)
theorem n_patternOf {p : Nat} (hp : p < 60) (hn : w.1 = N0) : Ev g (d + 6) 206 [.ref 1424, .int (nI p)] (rW w m f A B) (RetQ (patF (turnF f p)) (rW w m f A B)) noX := by
  refine ev_X11_patternOf ?_ (Nat.le_of_ble_eq_true rfl)
  refine x_lo (lo' := [some (.ref 1424), some (.int (nI p)), none, none, none, none]) rfl ?_
  refine x_c rfl ?_
  refine x_is (lo' := [_, _, _, _, _, _]) rfl (Nat.le_of_ble_eq_true rfl) rfl ?_
  refine x_c rfl ?_
  refine x_is (lo' := [_, _, _, _, _, _]) rfl (Nat.le_of_ble_eq_true rfl) rfl ?_
  refine x_c rfl ?_
  refine x_is (lo' := [_, _, _, _, _, _]) rfl (Nat.le_of_ble_eq_true rfl) rfl ?_
  have loop : ∀ c, c ≤ 49 → ∀ o5, EX g mbOf (Ev g (d + 5)) (infoOf 206) k_X11_patternOf (RetQ (patF (turnF f p)) (rW w m f A B)) noX w.1 (rW w m f A B) 0 0 6 [some (.ref 1424), some (.int (nI p)), some (.int (nI (cn (fun c => turnF f p c == 8) c))), some (.int (nI (cn (fun c => turnF f p c == -8) c))), some (.int (nI c)), o5] [] := by
    refine downN 49 fun c hc ih => ?_
    intro o5
    have l1 := cn_le (fun c => turnF f p c == 8) c
    have l2 := cn_le (fun c => turnF f p c == -8) c
    refine x_il rfl rfl ?_
    refine x_c rfl ?_
    refine x_icgeN (y := 49) rfl (by omega) (fun c1 => ?_) (fun c1 => ?_)
    · refine x_il rfl rfl ?_
      have : c = 49 := by omega
      subst this
      unfold patF
      generalize hk1 : cn (fun c => turnF f p c == 8) 49 = k1 at *
      generalize hk2 : cn (fun c => turnF f p c == -8) 49 = k2 at *
      have tail : EX g mbOf (Ev g (d + 5)) (infoOf 206) k_X11_patternOf (RetQ (if k1 = 2 ∧ k2 = 2 then 4 else if ¬ k1 = 1 ∨ ¬ k2 = 1 then 5 else if rem7 (sinF (turnF f p) 8 0) = rem7 (sinF (turnF f p) (-8) 0) then 1 else if rem7 (sinF (turnF f p) 8 0) < rem7 (sinF (turnF f p) (-8) 0) then 2 else 3) (rW w m f A B)) noX w.1 (rW w m f A B) 0 0 40 [some (.ref 1424), some (.int (nI p)), some (.int (nI k1)), some (.int (nI k2)), some (.int (nI 49)), o5] [] := by
        have tail2 : ¬ (k1 = 2 ∧ k2 = 2) → EX g mbOf (Ev g (d + 5)) (infoOf 206) k_X11_patternOf (RetQ (if ¬ k1 = 1 ∨ ¬ k2 = 1 then 5 else if rem7 (sinF (turnF f p) 8 0) = rem7 (sinF (turnF f p) (-8) 0) then 1 else if rem7 (sinF (turnF f p) 8 0) < rem7 (sinF (turnF f p) (-8) 0) then 2 else 3) (rW w m f A B)) noX w.1 (rW w m f A B) 0 0 48 [some (.ref 1424), some (.int (nI p)), some (.int (nI k1)), some (.int (nI k2)), some (.int (nI 49)), o5] [] := by
          intro _
          refine x_il rfl rfl ?_
          refine x_c rfl ?_
          refine x_icneN (y := 1) rfl (by omega) (fun e1 => ?_) (fun e1 => ?_)
          · refine x_c rfl ?_
            refine x_reti rfl (Nat.le_of_ble_eq_true rfl) (Nat.le_of_ble_eq_true rfl) rfl ?_
            exact ⟨by rw [if_pos (Or.inl e1)], rfl⟩
          refine x_il rfl rfl ?_
          refine x_c rfl ?_
          refine x_iceqN (y := 1) rfl (by omega) (fun e2 => ?_) (fun e2 => ?_)
          rotate_left
          · refine x_c rfl ?_
            refine x_reti rfl (Nat.le_of_ble_eq_true rfl) (Nat.le_of_ble_eq_true rfl) rfl ?_
            exact ⟨by rw [if_pos (Or.inr e2)], rfl⟩
          refine x_al rfl rfl ?_
          refine x_il rfl rfl ?_
          refine x_c rfl ?_
          refine x_c rfl ?_
          rw [if_neg (fun h => h.elim (fun h => h e1) (fun h => h e2))]
          unfold rem7
          refine x_call4 (n_singularOf hp hn) rfl (Nat.le_of_ble_eq_true rfl) (Or.inl (by first | exact hn | assumption)) (rcv_at (by first | exact rw_md hn | exact rw_w hn | exact rw_A hn (by exact rfl) | exact rw_B2 hn | exact rw_B3 hn | assumption) (by decide) (by decide)) (Nat.le_of_ble_eq_true rfl) (Nat.le_of_ble_eq_true rfl) (fun E w9 hq => hq.elim) ?_
          rintro v9 w9 ⟨rfl, rfl⟩
          refine x_c rfl ?_
          refine x_rem rfl (by decide) ?_
          refine x_is (lo' := [_, _, _, _, _, _]) rfl (Nat.le_of_ble_eq_true rfl) rfl ?_
          refine x_al rfl rfl ?_
          refine x_il rfl rfl ?_
          refine x_c rfl ?_
          refine x_c rfl ?_
          refine x_call4 (n_singularOf hp hn) rfl (Nat.le_of_ble_eq_true rfl) (Or.inl (by first | exact hn | assumption)) (rcv_at (by first | exact rw_md hn | exact rw_w hn | exact rw_A hn (by exact rfl) | exact rw_B2 hn | exact rw_B3 hn | assumption) (by decide) (by decide)) (Nat.le_of_ble_eq_true rfl) (Nat.le_of_ble_eq_true rfl) (fun E w9 hq => hq.elim) ?_
          rintro v9 w9 ⟨rfl, rfl⟩
          refine x_c rfl ?_
          refine x_rem rfl (by decide) ?_
          refine x_is (lo' := [_, _, _, _, _, _]) rfl (Nat.le_of_ble_eq_true rfl) rfl ?_
          refine x_il rfl rfl ?_
          refine x_il rfl rfl ?_
          refine x_icne rfl (fun e3 => ?_) (fun e3 => ?_)
          rotate_left
          · refine x_c rfl ?_
            refine x_go rfl ?_
            refine x_reti rfl (Nat.le_of_ble_eq_true rfl) (Nat.le_of_ble_eq_true rfl) rfl ?_
            exact ⟨by rw [if_pos e3], rfl⟩
          refine x_il rfl rfl ?_
          refine x_il rfl rfl ?_
          refine x_icle rfl (fun e4 => ?_) (fun e4 => ?_)
          · refine x_c rfl ?_
            refine x_reti rfl (Nat.le_of_ble_eq_true rfl) (Nat.le_of_ble_eq_true rfl) rfl ?_
            exact ⟨by rw [if_neg e3, if_neg (Int32.not_lt.mpr e4)], rfl⟩
          refine x_c rfl ?_
          refine x_go rfl ?_
          refine x_reti rfl (Nat.le_of_ble_eq_true rfl) (Nat.le_of_ble_eq_true rfl) rfl ?_
          exact ⟨by rw [if_neg e3, if_pos (Int32.not_le.mp e4)], rfl⟩
        refine x_il rfl rfl ?_
        refine x_c rfl ?_
        refine x_icneN (y := 2) rfl (by omega) (fun e1 => ?_) (fun e1 => ?_)
        · skip
          rw [if_neg (fun h => e1 h.1)]
          exact tail2 (fun h => e1 h.1)
        refine x_il rfl rfl ?_
        refine x_c rfl ?_
        refine x_icneN (y := 2) rfl (by omega) (fun e2 => ?_) (fun e2 => ?_)
        · skip
          rw [if_neg (fun h => e2 h.2)]
          exact tail2 (fun h => e2 h.2)
        refine x_c rfl ?_
        refine x_reti rfl (Nat.le_of_ble_eq_true rfl) (Nat.le_of_ble_eq_true rfl) rfl ?_
        exact ⟨by rw [if_pos ⟨e1, e2⟩], rfl⟩
      refine x_ifneN rfl (by omega) (fun e1 => ?_) (fun e1 => ?_)
      · skip
        rw [if_neg (fun h => e1 h.1)]
        exact tail
      refine x_il rfl rfl ?_
      refine x_ifneN rfl (by omega) (fun e2 => ?_) (fun e2 => ?_)
      · skip
        rw [if_neg (fun h => e2 h.2)]
        exact tail
      refine x_c rfl ?_
      refine x_reti rfl (Nat.le_of_ble_eq_true rfl) (Nat.le_of_ble_eq_true rfl) rfl ?_
      exact ⟨by rw [if_pos ⟨e1, e2⟩], rfl⟩
    refine x_al rfl rfl ?_
    refine x_il rfl rfl ?_
    refine x_il rfl rfl ?_
    refine x_call3 (n_turnOf hp c1 hn) rfl (Nat.le_of_ble_eq_true rfl) (Or.inl (by first | exact hn | assumption)) (rcv_at (by first | exact rw_md hn | exact rw_w hn | exact rw_A hn (by exact rfl) | exact rw_B2 hn | exact rw_B3 hn | assumption) (by decide) (by decide)) (Nat.le_of_ble_eq_true rfl) (Nat.le_of_ble_eq_true rfl) (fun E w9 hq => hq.elim) ?_
    rintro v9 w9 ⟨rfl, rfl⟩
    refine x_is (lo' := [_, _, _, _, _, _]) rfl (Nat.le_of_ble_eq_true rfl) rfl ?_
    refine x_il rfl rfl ?_
    refine x_il rfl rfl ?_
    refine x_c rfl ?_
    generalize ht : turnF f p c = t
    have step : ∀ a b : Nat, a = cn (fun c => turnF f p c == 8) (c + 1) → b = cn (fun c => turnF f p c == -8) (c + 1) → EX g mbOf (Ev g (d + 5)) (infoOf 206) k_X11_patternOf (RetQ (patF (turnF f p)) (rW w m f A B)) noX w.1 (rW w m f A B) 0 0 6 [some (.ref 1424), some (.int (nI p)), some (.int (nI a)), some (.int (nI b)), some (.int (nI (c + 1))), some (.int t)] [] := by
      intro a b ha hb
      rw [ha, hb]; exact ih c1 _
    refine x_icne rfl (fun e1 => ?_) (fun e1 => ?_)
    · refine x_c rfl ?_
      refine x_addN (y := 0) rfl ?_
      refine x_is (lo' := [_, _, _, _, _, _]) rfl (Nat.le_of_ble_eq_true rfl) rfl ?_
      refine x_il rfl rfl ?_
      refine x_il rfl rfl ?_
      refine x_c rfl ?_
      refine x_icne rfl (fun e2 => ?_) (fun e2 => ?_)
      · refine x_c rfl ?_
        refine x_addN (y := 0) rfl ?_
        refine x_is (lo' := [_, _, _, _, _, _]) rfl (Nat.le_of_ble_eq_true rfl) rfl ?_
        refine x_inc1 (lo' := [_, _, _, _, _, _]) rfl rfl rfl ?_
        refine x_go rfl ?_
        exact step _ _ (by rw [cn_f (by simpa [ht] using e1)]; rfl) (by rw [cn_f (by simpa [ht] using e2)]; rfl)
      refine x_c rfl ?_
      refine x_go rfl ?_
      refine x_addN (y := 1) rfl ?_
      refine x_is (lo' := [_, _, _, _, _, _]) rfl (Nat.le_of_ble_eq_true rfl) rfl ?_
      refine x_inc1 (lo' := [_, _, _, _, _, _]) rfl rfl rfl ?_
      refine x_go rfl ?_
      exact step _ _ (by rw [cn_f (by simpa [ht] using e1)]; rfl) (by rw [cn_t (by simpa [ht] using e2)])
    refine x_c rfl ?_
    refine x_go rfl ?_
    refine x_addN (y := 1) rfl ?_
    refine x_is (lo' := [_, _, _, _, _, _]) rfl (Nat.le_of_ble_eq_true rfl) rfl ?_
    refine x_il rfl rfl ?_
    refine x_il rfl rfl ?_
    refine x_c rfl ?_
    refine x_icne rfl (fun e2 => ?_) (fun e2 => ?_)
    · refine x_c rfl ?_
      refine x_addN (y := 0) rfl ?_
      refine x_is (lo' := [_, _, _, _, _, _]) rfl (Nat.le_of_ble_eq_true rfl) rfl ?_
      refine x_inc1 (lo' := [_, _, _, _, _, _]) rfl rfl rfl ?_
      refine x_go rfl ?_
      exact step _ _ (by rw [cn_t (by simpa [ht] using e1)]) (by rw [cn_f (by simpa [ht] using e2)]; rfl)
    refine x_c rfl ?_
    refine x_go rfl ?_
    refine x_addN (y := 1) rfl ?_
    refine x_is (lo' := [_, _, _, _, _, _]) rfl (Nat.le_of_ble_eq_true rfl) rfl ?_
    refine x_inc1 (lo' := [_, _, _, _, _, _]) rfl rfl rfl ?_
    refine x_go rfl ?_
    exact step _ _ (by rw [cn_t (by simpa [ht] using e1)]) (by rw [cn_t (by simpa [ht] using e2)])
  exact loop 0 (by decide) _
end PRINT
