/-! reading of an atom: mset_ -/
theorem bI_t' {b : Bool} (h : ¬ bI b = 0) : b = true := by cases b with
  | true => rfl
  | false => exact absurd rfl h
section READA
variable {g : aG} {d : Nat} {w : aW} {m f : Nat → Int32} {A : Nat → Nat → Int32} {B : Nat → Nat → Int64} {pt en : Nat}
theorem n_sgB {c : Int32} (h : Tp m pt en) (hn : w.1 = N0) : Ev g (d + 3) 192 [.ref 1424, .int c] (rW w m f A B) (fun v w' => v = some (.int (bI (sgB (A 1427) en pt c))) ∧ w' = rW w (tp m (if sgB (A 1427) en pt c = true then wS (A 1427) en pt + 1 else wS (A 1427) en pt) (wS (A 1427) en pt)) f A B) noX := by
  refine Ev_mono g _ _ _ _ _ _ _ _ (fun v w' hq => ?_) (fun E w' hq => hq) (n_sign h hn)
  rcases hq with ⟨h1, h2, h3⟩ | ⟨h1, h2, h3⟩
  · have e : sgB (A 1427) en pt c = true := decide_eq_true h1
    rw [e]
    exact ⟨h2, by rw [if_pos rfl]; exact h3⟩
  · have e : sgB (A 1427) en pt c = false := decide_eq_false h1
    rw [e]
    exact ⟨h2, by rw [if_neg (by decide)]; exact h3⟩
theorem PQ_f {w : aW} {m f : Nat → Int32} {A : Nat → Nat → Int32} {B : Nat → Nat → Int64} {st b : Nat} {m' f' : Nat → Int32} (h8 : m' 8 = nI b) (hm : ∀ k, k ≠ 6 → k ≠ 8 → k ≠ 9 → k ≠ 23 → m' k = m k) (hf : ∀ i, i < 21376 → f' i = f i) : PQ w m f A B st (false, 0, b, []) (some (.int 0)) (rW w m' f' A B) := ⟨rfl, m', f', rfl, h8, hm, hf, fun h => absurd h (by show ¬ false = true; decide)⟩
theorem tp_k {m : Nat → Int32} {p b : Nat} : ∀ k, k ≠ 6 → k ≠ 8 → k ≠ 9 → k ≠ 23 → tp m p b k = m k := fun k h1 h2 _ _ => tp_o ⟨h1, h2⟩
theorem n_atomF {e dp en : Nat} {t : Nat → Int32} {cond atom : Nat → PR} {dpst : Bool} (hT : HTx g) (hdp : dpst = true ↔ dp = 6) (hd6 : dp ≤ 6) (hIc : IB en cond ∨ dpst = true) (hIa : IB en atom ∨ dpst = true) (hC : dpst = false → RdOK g (e + 9) 253 t en (dp + 1) cond) (hAt : dpst = false → RdOK g (e + 9) 251 t en (dp + 1) atom) : RdOK g (e + 10) 251 t en dp (atomF cond atom dpst t en) := by
  intro w m f A B p st hn ht hTp h9 h23 hst
  have hb400 := atomF_b (t := t) hIc hIa p hTp.2.2.1
  generalize hP : atomF cond atom dpst t en p = P at *
  have hen := hTp.2.2.2
  have e1 := wS_ge (t := t) (en := en) (p := p)
  have e2 := wE_ge (t := t) (en := en) (p := p)
  have e3 := wE_le (t := t) hTp.2.2.1
  have e4 := wS_le (t := t) hTp.2.2.1
  have idS : wS t en (wS t en p) = wS t en p := runs_idem hTp.2.2.1
  have idE : wE t en (wS t en p) = wE t en p := by show runs t en 97 122 (wS t en (wS t en p)) = _; rw [idS]
  unfold atomF at hP
  refine ev_X11_readAtom ?_ (Nat.le_of_ble_eq_true rfl)
  refine x_lo (lo' := [some (.ref 1424), none, none, none, none]) rfl ?_
  refine x_al rfl rfl ?_
  refine x_c rfl ?_
  refine x_call2 (n_sgB (c := 40) hTp hn) rfl (Nat.le_of_ble_eq_true rfl) (Or.inl (by first | exact hn | assumption)) (rcv_at (by first | exact rw_md hn | exact rw_w hn | exact rw_A hn (by exact rfl) | exact rw_B2 hn | exact rw_B3 hn | assumption) (by decide) (by decide)) (Nat.le_of_ble_eq_true rfl) (Nat.le_of_ble_eq_true rfl) (fun E w9 hq => hq.elim) ?_
  rintro v9 w9 ⟨rfl, rfl⟩
  rw [ht]
  cases h40 : sgB t en p 40 with
  | true =>
    rw [if_pos h40] at hP
    rw [if_pos rfl]
    have l40 := sgB_lt h40
    refine x_ifeq rfl (fun c => absurd c (show ¬ (1 : Int32) = 0 by decide)) (fun c => ?_)
    refine x_al rfl rfl ?_
    refine x_get rfl (rw_md hn) (by exact rfl) ?_
    rw [tp_o (by decide), h9]
    refine x_c rfl ?_
    cases dpst with
    | true =>
      have hd := hdp.mp rfl
      rw [if_pos rfl] at hP
      subst hP
      refine x_icneN (y := 6) rfl (by omega) (fun c => absurd hd c) (fun c => ?_)
      refine x_c rfl ?_
      refine x_retz rfl (Nat.le_of_ble_eq_true rfl) (Nat.le_of_ble_eq_true rfl) rfl (by first | rfl | assumption) ?_
      exact PQ_f rfl tp_k (fun _ _ => rfl)
    | false =>
      have hd : ¬ dp = 6 := fun h => absurd (hdp.mpr h) (by decide)
      rw [if_neg (by decide)] at hP
      refine x_icneN (y := 6) rfl (by omega) (fun c => ?_) (fun c => absurd c hd)
      refine x_al rfl rfl ?_
      refine x_dup rfl rfl ?_
      refine x_get rfl (rw_md hn) (by exact rfl) ?_
      refine x_c rfl ?_
      refine x_add rfl ?_
      refine x_putM rfl hn rfl rfl rfl (mset_9 _ _) ?_
      refine x_al rfl rfl ?_
      rw [tp_o (by decide), h9, show nI dp + 1 = nI (dp + 1) from nI_add dp 1]
      have hTp2 : Tp (upd (tp m (wS t en p + 1) (wS t en p)) 9 (nI (dp + 1))) (wS t en p + 1) en := ⟨rfl, by rw [pk_un (by decide), tp_o (by decide)]; exact hTp.2.1, l40, hTp.2.2.2⟩
      refine x_call1 ((hC rfl) w _ f A B (wS t en p + 1) st hn ht hTp2 pk_us (by rw [pk_un (by decide), tp_o (by decide)]; exact h23) (by omega)) rfl (Nat.le_of_ble_eq_true rfl) (Or.inl (by first | exact hn | assumption)) (rcv_at (by first | exact rw_md hn | exact rw_w hn | exact rw_A hn (by exact rfl) | exact rw_B2 hn | exact rw_B3 hn | assumption) (by decide) (by decide)) (Nat.le_of_ble_eq_true rfl) (Nat.le_of_ble_eq_true rfl) (fun E w9 hq => hq.elim) ?_
      rintro v9 w9 ⟨rfl, m2, f2, rfl, d1, d2, d3, d4⟩
      have hm2 : ∀ k, k ≠ 6 → k ≠ 8 → k ≠ 9 → k ≠ 23 → m2 k = m k := fun k h1 h2 h3 h4 => (d2 k h1 h2 h3 h4).trans (by rw [pk_un h3]; exact tp_o ⟨h1, h2⟩)
      have hIc := hIc.resolve_right (by decide)
      cases hok : (cond (wS t en p + 1)).1 with
      | false =>
        rw [if_neg (by rw [hok]; decide)] at hP
        subst hP
        refine x_ifne rfl (fun c => absurd rfl c) (fun c => ?_)
        refine x_c rfl ?_
        refine x_retz rfl (Nat.le_of_ble_eq_true rfl) (Nat.le_of_ble_eq_true rfl) rfl (by first | rfl | assumption) ?_
        exact PQ_f d1 hm2 d3
      | true =>
        rw [if_pos hok] at hP
        obtain ⟨k1, k2, k3, k4⟩ := d4 hok
        have hb := hIc _ (show wS t en p + 1 ≤ en by omega) hok
        refine x_ifne rfl (fun c => ?_) (fun c => absurd c (show ¬ (1 : Int32) = 0 by decide))
        refine x_al rfl rfl ?_
        refine x_dup rfl rfl ?_
        refine x_get rfl (rw_md hn) (by exact rfl) ?_
        refine x_c rfl ?_
        refine x_sub rfl ?_
        refine x_putM rfl hn rfl rfl rfl (mset_9 _ _) ?_
        refine x_al rfl rfl ?_
        refine x_c rfl ?_
        rw [k2, pk_us, show nI (dp + 1) - 1 = nI dp from nI_pred dp]
        have hTp3 : Tp (upd m2 9 (nI dp)) (cond (wS t en p + 1)).2.1 en := ⟨by rw [pk_un (by decide)]; exact k1, by rw [pk_un (by decide), hm2 7 (by decide) (by decide) (by decide) (by decide)]; exact hTp.2.1, hb.2.2, hTp.2.2.2⟩
        have hz41 := bI_01 (sgB (A 1427) en (cond (wS t en p + 1)).2.1 41)
        refine x_call2 (n_sgB (c := 41) hTp3 hn) rfl (Nat.le_of_ble_eq_true rfl) (Or.inl (by first | exact hn | assumption)) (rcv_at (by first | exact rw_md hn | exact rw_w hn | exact rw_A hn (by exact rfl) | exact rw_B2 hn | exact rw_B3 hn | assumption) (by decide) (by decide)) (Nat.le_of_ble_eq_true rfl) (Nat.le_of_ble_eq_true rfl) (fun E w9 hq => hq.elim) ?_
        rintro v9 w9 ⟨rfl, rfl⟩
        refine x_retz rfl (Nat.le_of_ble_eq_true rfl) (Nat.le_of_ble_eq_true rfl) rfl (by first | rfl | assumption) ?_
        rw [ht]
        have hm3 : ∀ x y k, k ≠ 6 → k ≠ 8 → k ≠ 9 → k ≠ 23 → tp (upd m2 9 (nI dp)) x y k = m k := fun x y k h1 h2 h3 h4 => (tp_o ⟨h1, h2⟩).trans ((pk_un h3).trans (hm2 k h1 h2 h3 h4))
        cases h41 : sgB t en (cond (wS t en p + 1)).2.1 41 with
        | false =>
          rw [if_neg (by rw [h41]; decide)] at hP
          subst hP
          exact PQ_f rfl (hm3 _ _) d3
        | true =>
          rw [if_pos h41] at hP
          subst hP
          rw [if_pos rfl]
          refine ⟨rfl, _, _, rfl, rfl, hm3 _ _, d3, fun _ => ⟨rfl, ?_, ?_, k4⟩⟩
          · rw [tp_o (by decide), pk_us, h9]
          · rw [tp_o (by decide), pk_un (by decide), k3]
  | false =>
    rw [if_neg (by rw [h40]; decide)] at hP
    rw [if_neg (by decide)]
    have wordpart : ∀ M : Nat → Int32, Tp M (wS t en p) en → M 9 = nI dp → M 23 = nI st → (∀ k, k ≠ 6 → k ≠ 8 → k ≠ 9 → k ≠ 23 → M k = m k) → pWord t en p = P → EX g mbOf (Ev g (e + 9)) (infoOf 251) k_X11_readAtom (PQ w m f A B st P) noX w.1 (rW w M f A B) 0 0 64 [some (.ref 1424), none, none, none, none] [] := by
      intro M hM M9 M23 hMk hP
      unfold pWord at hP
      refine x_al rfl rfl ?_
      refine x_call1 (n_word hM hn) rfl (Nat.le_of_ble_eq_true rfl) (Or.inl (by first | exact hn | assumption)) (rcv_at (by first | exact rw_md hn | exact rw_w hn | exact rw_A hn (by exact rfl) | exact rw_B2 hn | exact rw_B3 hn | assumption) (by decide) (by decide)) (Nat.le_of_ble_eq_true rfl) (Nat.le_of_ble_eq_true rfl) (fun E w9 hq => hq.elim) ?_
      rintro v9 w9 ⟨rfl, rfl⟩
      refine x_al rfl rfl ?_
      refine x_str rfl ?_
      rw [ht, show runs t en 32 32 (wS t en p) = wS t en p from idS]
      have hMk2 : ∀ x y k, k ≠ 6 → k ≠ 8 → k ≠ 9 → k ≠ 23 → tp M x y k = m k := fun x y k h1 h2 h3 h4 => (tp_o ⟨h1, h2⟩).trans (hMk k h1 h2 h3 h4)
      have factdone : ∀ o2 : Option Nat, fiW t (wE t en p) (wS t en p) [9, 10, 11, 12] 0 = none → fiW t (wE t en p) (wS t en p) [13, 14, 15, 16, 17] 0 = o2 → EX g mbOf (Ev g (e + 9)) (infoOf 251) k_X11_readAtom (PQ w m f A B st P) noX w.1 (rW w (tp M (wE t en p) (wS t en p)) f A B) 0 0 131 [some (.ref 1424), some (.int (-1)), none, none, none] [.int (oI o2)] := by
        intro o2 hf1 hf2
        rw [hf1] at hP
        dsimp only at hP
        rw [hf2] at hP
        cases o2 with
        | none =>
          dsimp only at hP
          subst hP
          refine x_is (lo' := [_, _, _, _, _]) rfl (Nat.le_of_ble_eq_true rfl) rfl ?_
          refine x_il rfl rfl ?_
          refine x_ifge rfl (fun c => absurd c (show ¬ (0 : Int32) ≤ -1 by decide)) (fun c => ?_)
          refine x_c rfl ?_
          refine x_retz rfl (Nat.le_of_ble_eq_true rfl) (Nat.le_of_ble_eq_true rfl) rfl (by first | rfl | assumption) ?_
          exact PQ_f rfl (hMk2 _ _) (fun _ _ => rfl)
        | some i =>
          dsimp only at hP
          obtain ⟨-, -, hi5⟩ := fiW_s _ _ _ hf2
          have hi5 : i < 5 := by simp at hi5; omega
          have fact : ∀ (op : Nat) (z : Bool) M3, (op = if z = true then 100 else 200) → Tp M3 (wS t en (wE t en p) + 1) en → M3 23 = nI st → M3 9 = nI dp → (∀ k, k ≠ 6 → k ≠ 8 → k ≠ 9 → k ≠ 23 → M3 k = m k) → pFact t en (wS t en (wE t en p) + 1) i op = P → EX g mbOf (Ev g (e + 9)) (infoOf 251) k_X11_readAtom (PQ w m f A B st P) noX w.1 (rW w M3 f A B) 0 0 148 [some (.ref 1424), some (.int (-1)), some (.int (nI i)), some (.int (bI z)), none] [] := by
            intro op z M3 hop hM3 h323 h39 hk3 hP
            unfold pFact at hP
            refine x_al rfl rfl ?_
            refine x_c rfl ?_
            refine x_c rfl ?_
            refine x_call3 (n_number hM3 hn) rfl (Nat.le_of_ble_eq_true rfl) (Or.inl (by first | exact hn | assumption)) (rcv_at (by first | exact rw_md hn | exact rw_w hn | exact rw_A hn (by exact rfl) | exact rw_B2 hn | exact rw_B3 hn | assumption) (by decide) (by decide)) (Nat.le_of_ble_eq_true rfl) (Nat.le_of_ble_eq_true rfl) (fun E w9 hq => hq.elim) ?_
            rintro v9 w9 ⟨rfl, rfl⟩
            refine x_is (lo' := [_, _, _, _, _]) rfl (Nat.le_of_ble_eq_true rfl) rfl ?_
            refine x_il rfl rfl ?_
            rw [ht]
            have hk4 : ∀ x y k, k ≠ 6 → k ≠ 8 → k ≠ 9 → k ≠ 23 → tp M3 x y k = m k := fun x y k h1 h2 h3 h4 => (tp_o ⟨h1, h2⟩).trans (hk3 k h1 h2 h3 h4)
            refine x_ifge rfl (fun c1 => ?_) (fun c1 => ?_)
            rotate_left
            · refine x_c rfl ?_
              refine x_retz rfl (Nat.le_of_ble_eq_true rfl) (Nat.le_of_ble_eq_true rfl) rfl (by first | rfl | assumption) ?_
              rw [if_pos (Int32.not_le.mp c1)] at hP
              subst hP
              exact PQ_f rfl (hk4 _ _) (fun _ _ => rfl)
            refine x_al rfl rfl ?_
            refine x_il rfl rfl ?_
            rw [if_neg (Int32.not_lt.mpr c1)] at hP
            have hst4 : st < 400 := by
              have := hb400 (by rw [← hP])
              rw [← hP] at this
              have h1 : p + 1 ≤ _ := this.1
              have h2 := this.2.2
              dsimp only at h1 h2
              omega
            have last : ∀ x : Int32, x = nI (op + i) → EX g mbOf (Ev g (e + 9)) (infoOf 251) k_X11_readAtom (PQ w m f A B st P) noX w.1 (rW w (tp M3 (runs t en 48 57 (runs t en 32 32 (wS t en (wE t en p) + 1))) (runs t en 32 32 (wS t en (wE t en p) + 1))) f A B) 0 0 165 [some (.ref 1424), some (.int (-1)), some (.int (nI i)), some (.int (bI z)), some (.int (numR t en (wS t en (wS t en (wE t en p) + 1)) 0 9999))] [.int x, .ref 1424] := by
              intro x hx
              rw [hx]
              refine x_il rfl rfl ?_
              refine x_call3 (n_emits (st := st) (by rw [tp_o (by decide)]; exact h323) hst4 hn) rfl (Nat.le_of_ble_eq_true rfl) (Or.inl (by first | exact hn | assumption)) (rcv_at (by first | exact rw_md hn | exact rw_w hn | exact rw_A hn (by exact rfl) | exact rw_B2 hn | exact rw_B3 hn | assumption) (by decide) (by decide)) (Nat.le_of_ble_eq_true rfl) (Nat.le_of_ble_eq_true rfl) (fun E w9 hq => hq.elim) ?_
              rintro v9 w9 ⟨rfl, rfl⟩
              refine x_c rfl ?_
              refine x_retz rfl (Nat.le_of_ble_eq_true rfl) (Nat.le_of_ble_eq_true rfl) rfl (by first | rfl | assumption) ?_
              subst hP
              refine ⟨rfl, _, _, rfl, rfl, fun k h1 h2 h3 h4 => (pk_un h4).trans (hk4 _ _ k h1 h2 h3 h4), fun i hi => by rw [pk_un (by omega), pk_un (by omega)], fun _ => ⟨rfl, ?_, pk_us, rfl⟩⟩
              rw [pk_un (by decide), tp_o (by decide), h39, h9]
            cases z with
            | true =>
              refine x_ifeq rfl (fun c => absurd c (show ¬ (1 : Int32) = 0 by decide)) (fun c => ?_)
              refine x_c rfl ?_
              refine x_go rfl ?_
              refine x_il rfl rfl ?_
              refine x_addN (x := 100) rfl ?_
              exact last _ (by subst hop; rfl)
            | false =>
              refine x_ifeq rfl (fun c => ?_) (fun c => absurd rfl c)
              refine x_c rfl ?_
              refine x_il rfl rfl ?_
              refine x_addN (x := 200) rfl ?_
              exact last _ (by subst hop; rfl)
          refine x_is (lo' := [_, _, _, _, _]) rfl (Nat.le_of_ble_eq_true rfl) rfl ?_
          refine x_il rfl rfl ?_
          refine x_ifge rfl (fun c => ?_) (fun c => absurd (nI_pos' (show i < 2 ^ 31 by omega)) c)
          refine x_al rfl rfl ?_
          refine x_c rfl ?_
          have hTe : Tp (tp M (wE t en p) (wS t en p)) (wE t en p) en := hM.tp e3
          refine x_call2 (n_sgB (c := 60) hTe hn) rfl (Nat.le_of_ble_eq_true rfl) (Or.inl (by first | exact hn | assumption)) (rcv_at (by first | exact rw_md hn | exact rw_w hn | exact rw_A hn (by exact rfl) | exact rw_B2 hn | exact rw_B3 hn | assumption) (by decide) (by decide)) (Nat.le_of_ble_eq_true rfl) (Nat.le_of_ble_eq_true rfl) (fun E w9 hq => hq.elim) ?_
          rintro v9 w9 ⟨rfl, rfl⟩
          refine x_is (lo' := [_, _, _, _, _]) rfl (Nat.le_of_ble_eq_true rfl) rfl ?_
          refine x_il rfl rfl ?_
          rw [ht, tp_tp]
          have e5 := wS_le (t := t) e3
          cases h60 : sgB t en (wE t en p) 60 with
          | true =>
            rw [if_pos h60] at hP
            have l60 := sgB_lt h60
            rw [if_pos rfl]
            refine x_ifne rfl (fun c => ?_) (fun c => absurd c (show ¬ (1 : Int32) = 0 by decide))
            exact fact 100 true _ rfl (hM.tp (by omega)) (by rw [tp_o (by decide)]; exact M23) (by rw [tp_o (by decide)]; exact M9) (hMk2 _ _) hP
          | false =>
            rw [if_neg (by rw [h60]; decide)] at hP
            rw [if_neg (by decide)]
            refine x_ifne rfl (fun c => absurd rfl c) (fun c => ?_)
            refine x_al rfl rfl ?_
            refine x_c rfl ?_
            refine x_call2 (n_sgB (c := 62) (hM.tp e5) hn) rfl (Nat.le_of_ble_eq_true rfl) (Or.inl (by first | exact hn | assumption)) (rcv_at (by first | exact rw_md hn | exact rw_w hn | exact rw_A hn (by exact rfl) | exact rw_B2 hn | exact rw_B3 hn | assumption) (by decide) (by decide)) (Nat.le_of_ble_eq_true rfl) (Nat.le_of_ble_eq_true rfl) (fun E w9 hq => hq.elim) ?_
            rintro v9 w9 ⟨rfl, rfl⟩
            rw [ht, tp_tp]
            have id2 : wS t en (wS t en (wE t en p)) = wS t en (wE t en p) := runs_idem e3
            have s2 : sgB t en (wS t en (wE t en p)) 62 = sgB t en (wE t en p) 62 := by unfold sgB; rw [id2]
            rw [s2, id2]
            cases h62 : sgB t en (wE t en p) 62 with
            | true =>
              rw [if_pos h62] at hP
              have l62 := sgB_lt h62
              rw [if_pos rfl]
              refine x_ifne rfl (fun c => ?_) (fun c => absurd c (show ¬ (1 : Int32) = 0 by decide))
              exact fact 200 false _ rfl (hM.tp (by omega)) (by rw [tp_o (by decide)]; exact M23) (by rw [tp_o (by decide)]; exact M9) (hMk2 _ _) hP
            | false =>
              rw [if_neg (by rw [h62]; decide)] at hP
              subst hP
              rw [if_neg (by decide)]
              refine x_ifne rfl (fun c => absurd rfl c) (fun c => ?_)
              refine x_c rfl ?_
              refine x_retz rfl (Nat.le_of_ble_eq_true rfl) (Nat.le_of_ble_eq_true rfl) rfl (by first | rfl | assumption) ?_
              exact PQ_f rfl (hMk2 _ _) (fun _ _ => rfl)
      have tagdone : ∀ o : Option Nat, fiW t (wE t en p) (wS t en p) [9, 10, 11, 12] 0 = o → EX g mbOf (Ev g (e + 9)) (infoOf 251) k_X11_readAtom (PQ w m f A B st P) noX w.1 (rW w (tp M (wE t en p) (wS t en p)) f A B) 0 0 91 [some (.ref 1424), none, none, none, none] [.int (oI o)] := by
        intro o hf1
        cases o with
        | some i =>
          rw [hf1] at hP
          dsimp only at hP
          obtain ⟨-, -, hi4⟩ := fiW_s _ _ _ hf1
          have hi4 : i < 4 := by simp at hi4; omega
          have hst4 : st < 400 := by
            have := hb400 (by rw [← hP])
            rw [← hP] at this
            have h1 : p + 1 ≤ _ := this.1
            have h2 := this.2.2
            dsimp only at h1 h2
            omega
          refine x_is (lo' := [_, _, _, _, _]) rfl (Nat.le_of_ble_eq_true rfl) rfl ?_
          refine x_il rfl rfl ?_
          refine x_iflt rfl (fun c => absurd c (nI_pos (show i < 2 ^ 31 by omega))) (fun c => ?_)
          refine x_al rfl rfl ?_
          refine x_il rfl rfl ?_
          refine x_c rfl ?_
          refine x_call3 (n_emits (st := st) (by rw [tp_o (by decide)]; exact M23) hst4 hn) rfl (Nat.le_of_ble_eq_true rfl) (Or.inl (by first | exact hn | assumption)) (rcv_at (by first | exact rw_md hn | exact rw_w hn | exact rw_A hn (by exact rfl) | exact rw_B2 hn | exact rw_B3 hn | assumption) (by decide) (by decide)) (Nat.le_of_ble_eq_true rfl) (Nat.le_of_ble_eq_true rfl) (fun E w9 hq => hq.elim) ?_
          rintro v9 w9 ⟨rfl, rfl⟩
          refine x_c rfl ?_
          refine x_retz rfl (Nat.le_of_ble_eq_true rfl) (Nat.le_of_ble_eq_true rfl) rfl (by first | rfl | assumption) ?_
          subst hP
          refine ⟨rfl, _, _, rfl, rfl, fun k h1 h2 h3 h4 => (pk_un h4).trans (hMk2 _ _ k h1 h2 h3 h4), fun i hi => by rw [pk_un (by omega), pk_un (by omega)], fun _ => ⟨rfl, ?_, pk_us, rfl⟩⟩
          rw [pk_un (by decide), tp_o (by decide), M9, h9]
        | none =>
          refine x_is (lo' := [_, _, _, _, _]) rfl (Nat.le_of_ble_eq_true rfl) rfl ?_
          refine x_il rfl rfl ?_
          refine x_iflt rfl (fun c => ?_) (fun c => absurd (show (-1 : Int32) < 0 by decide) c)
          refine x_al rfl rfl ?_
          refine x_str rfl ?_
          refine x_call2 (n_isWordK (k := 13) (p := wE t en p) (b := wS t en p) hT (by decide) tp_6 tp_8 wE_ge (by omega) hn) rfl (Nat.le_of_ble_eq_true rfl) (Or.inl (by first | exact hn | assumption)) (rcv_at (by first | exact rw_md hn | exact rw_w hn | exact rw_A hn (by exact rfl) | exact rw_B2 hn | exact rw_B3 hn | assumption) (by decide) (by decide)) (Nat.le_of_ble_eq_true rfl) (Nat.le_of_ble_eq_true rfl) (fun E w9 hq => hq.elim) ?_
          rintro v9 w9 ⟨rfl, rfl⟩
          rw [ht]
          cases hw13 : wdB t (wE t en p) (wS t en p) 13 with
          | true =>
            refine x_ifeq rfl (fun c => absurd c (show ¬ (1 : Int32) = 0 by decide)) (fun c => ?_)
            refine x_c rfl ?_
            refine x_go rfl ?_
            exact factdone (some 0) hf1 (by unfold fiW; rw [if_pos hw13])
          | false =>
            refine x_ifeq rfl (fun c => ?_) (fun c => absurd rfl c)
            refine x_al rfl rfl ?_
            refine x_str rfl ?_
            refine x_call2 (n_isWordK (k := 14) (p := wE t en p) (b := wS t en p) hT (by decide) tp_6 tp_8 wE_ge (by omega) hn) rfl (Nat.le_of_ble_eq_true rfl) (Or.inl (by first | exact hn | assumption)) (rcv_at (by first | exact rw_md hn | exact rw_w hn | exact rw_A hn (by exact rfl) | exact rw_B2 hn | exact rw_B3 hn | assumption) (by decide) (by decide)) (Nat.le_of_ble_eq_true rfl) (Nat.le_of_ble_eq_true rfl) (fun E w9 hq => hq.elim) ?_
            rintro v9 w9 ⟨rfl, rfl⟩
            rw [ht]
            cases hw14 : wdB t (wE t en p) (wS t en p) 14 with
            | true =>
              refine x_ifeq rfl (fun c => absurd c (show ¬ (1 : Int32) = 0 by decide)) (fun c => ?_)
              refine x_c rfl ?_
              refine x_go rfl ?_
              exact factdone (some 1) hf1 (by unfold fiW; rw [if_neg (by rw [hw13]; decide)]; unfold fiW; rw [if_pos hw14])
            | false =>
              refine x_ifeq rfl (fun c => ?_) (fun c => absurd rfl c)
              refine x_al rfl rfl ?_
              refine x_str rfl ?_
              refine x_call2 (n_isWordK (k := 15) (p := wE t en p) (b := wS t en p) hT (by decide) tp_6 tp_8 wE_ge (by omega) hn) rfl (Nat.le_of_ble_eq_true rfl) (Or.inl (by first | exact hn | assumption)) (rcv_at (by first | exact rw_md hn | exact rw_w hn | exact rw_A hn (by exact rfl) | exact rw_B2 hn | exact rw_B3 hn | assumption) (by decide) (by decide)) (Nat.le_of_ble_eq_true rfl) (Nat.le_of_ble_eq_true rfl) (fun E w9 hq => hq.elim) ?_
              rintro v9 w9 ⟨rfl, rfl⟩
              rw [ht]
              cases hw15 : wdB t (wE t en p) (wS t en p) 15 with
              | true =>
                refine x_ifeq rfl (fun c => absurd c (show ¬ (1 : Int32) = 0 by decide)) (fun c => ?_)
                refine x_c rfl ?_
                refine x_go rfl ?_
                exact factdone (some 2) hf1 (by unfold fiW; rw [if_neg (by rw [hw13]; decide)]; unfold fiW; rw [if_neg (by rw [hw14]; decide)]; unfold fiW; rw [if_pos hw15])
              | false =>
                refine x_ifeq rfl (fun c => ?_) (fun c => absurd rfl c)
                refine x_al rfl rfl ?_
                refine x_str rfl ?_
                refine x_call2 (n_isWordK (k := 16) (p := wE t en p) (b := wS t en p) hT (by decide) tp_6 tp_8 wE_ge (by omega) hn) rfl (Nat.le_of_ble_eq_true rfl) (Or.inl (by first | exact hn | assumption)) (rcv_at (by first | exact rw_md hn | exact rw_w hn | exact rw_A hn (by exact rfl) | exact rw_B2 hn | exact rw_B3 hn | assumption) (by decide) (by decide)) (Nat.le_of_ble_eq_true rfl) (Nat.le_of_ble_eq_true rfl) (fun E w9 hq => hq.elim) ?_
                rintro v9 w9 ⟨rfl, rfl⟩
                rw [ht]
                cases hw16 : wdB t (wE t en p) (wS t en p) 16 with
                | true =>
                  refine x_ifeq rfl (fun c => absurd c (show ¬ (1 : Int32) = 0 by decide)) (fun c => ?_)
                  refine x_c rfl ?_
                  refine x_go rfl ?_
                  exact factdone (some 3) hf1 (by unfold fiW; rw [if_neg (by rw [hw13]; decide)]; unfold fiW; rw [if_neg (by rw [hw14]; decide)]; unfold fiW; rw [if_neg (by rw [hw15]; decide)]; unfold fiW; rw [if_pos hw16])
                | false =>
                  refine x_ifeq rfl (fun c => ?_) (fun c => absurd rfl c)
                  refine x_al rfl rfl ?_
                  refine x_str rfl ?_
                  refine x_call2 (n_isWordK (k := 17) (p := wE t en p) (b := wS t en p) hT (by decide) tp_6 tp_8 wE_ge (by omega) hn) rfl (Nat.le_of_ble_eq_true rfl) (Or.inl (by first | exact hn | assumption)) (rcv_at (by first | exact rw_md hn | exact rw_w hn | exact rw_A hn (by exact rfl) | exact rw_B2 hn | exact rw_B3 hn | assumption) (by decide) (by decide)) (Nat.le_of_ble_eq_true rfl) (Nat.le_of_ble_eq_true rfl) (fun E w9 hq => hq.elim) ?_
                  rintro v9 w9 ⟨rfl, rfl⟩
                  rw [ht]
                  cases hw17 : wdB t (wE t en p) (wS t en p) 17 with
                  | true =>
                    refine x_ifeq rfl (fun c => absurd c (show ¬ (1 : Int32) = 0 by decide)) (fun c => ?_)
                    refine x_c rfl ?_
                    refine x_go rfl ?_
                    exact factdone (some 4) hf1 (by unfold fiW; rw [if_neg (by rw [hw13]; decide)]; unfold fiW; rw [if_neg (by rw [hw14]; decide)]; unfold fiW; rw [if_neg (by rw [hw15]; decide)]; unfold fiW; rw [if_neg (by rw [hw16]; decide)]; unfold fiW; rw [if_pos hw17])
                  | false =>
                    refine x_ifeq rfl (fun c => ?_) (fun c => absurd rfl c)
                    refine x_c rfl ?_
                    exact factdone none hf1 (by unfold fiW; rw [if_neg (by rw [hw13]; decide)]; unfold fiW; rw [if_neg (by rw [hw14]; decide)]; unfold fiW; rw [if_neg (by rw [hw15]; decide)]; unfold fiW; rw [if_neg (by rw [hw16]; decide)]; unfold fiW; rw [if_neg (by rw [hw17]; decide)]; rfl)
      refine x_call2 (n_isWordK (k := 9) (p := wE t en p) (b := wS t en p) hT (by decide) tp_6 tp_8 wE_ge (by omega) hn) rfl (Nat.le_of_ble_eq_true rfl) (Or.inl (by first | exact hn | assumption)) (rcv_at (by first | exact rw_md hn | exact rw_w hn | exact rw_A hn (by exact rfl) | exact rw_B2 hn | exact rw_B3 hn | assumption) (by decide) (by decide)) (Nat.le_of_ble_eq_true rfl) (Nat.le_of_ble_eq_true rfl) (fun E w9 hq => hq.elim) ?_
      rintro v9 w9 ⟨rfl, rfl⟩
      rw [ht]
      cases hw9 : wdB t (wE t en p) (wS t en p) 9 with
      | true =>
        refine x_ifeq rfl (fun c => absurd c (show ¬ (1 : Int32) = 0 by decide)) (fun c => ?_)
        refine x_c rfl ?_
        refine x_go rfl ?_
        exact tagdone (some 0) (by unfold fiW; rw [if_pos hw9])
      | false =>
        refine x_ifeq rfl (fun c => ?_) (fun c => absurd rfl c)
        refine x_al rfl rfl ?_
        refine x_str rfl ?_
        refine x_call2 (n_isWordK (k := 10) (p := wE t en p) (b := wS t en p) hT (by decide) tp_6 tp_8 wE_ge (by omega) hn) rfl (Nat.le_of_ble_eq_true rfl) (Or.inl (by first | exact hn | assumption)) (rcv_at (by first | exact rw_md hn | exact rw_w hn | exact rw_A hn (by exact rfl) | exact rw_B2 hn | exact rw_B3 hn | assumption) (by decide) (by decide)) (Nat.le_of_ble_eq_true rfl) (Nat.le_of_ble_eq_true rfl) (fun E w9 hq => hq.elim) ?_
        rintro v9 w9 ⟨rfl, rfl⟩
        rw [ht]
        cases hw10 : wdB t (wE t en p) (wS t en p) 10 with
        | true =>
          refine x_ifeq rfl (fun c => absurd c (show ¬ (1 : Int32) = 0 by decide)) (fun c => ?_)
          refine x_c rfl ?_
          refine x_go rfl ?_
          exact tagdone (some 1) (by unfold fiW; rw [if_neg (by rw [hw9]; decide)]; unfold fiW; rw [if_pos hw10])
        | false =>
          refine x_ifeq rfl (fun c => ?_) (fun c => absurd rfl c)
          refine x_al rfl rfl ?_
          refine x_str rfl ?_
          refine x_call2 (n_isWordK (k := 11) (p := wE t en p) (b := wS t en p) hT (by decide) tp_6 tp_8 wE_ge (by omega) hn) rfl (Nat.le_of_ble_eq_true rfl) (Or.inl (by first | exact hn | assumption)) (rcv_at (by first | exact rw_md hn | exact rw_w hn | exact rw_A hn (by exact rfl) | exact rw_B2 hn | exact rw_B3 hn | assumption) (by decide) (by decide)) (Nat.le_of_ble_eq_true rfl) (Nat.le_of_ble_eq_true rfl) (fun E w9 hq => hq.elim) ?_
          rintro v9 w9 ⟨rfl, rfl⟩
          rw [ht]
          cases hw11 : wdB t (wE t en p) (wS t en p) 11 with
          | true =>
            refine x_ifeq rfl (fun c => absurd c (show ¬ (1 : Int32) = 0 by decide)) (fun c => ?_)
            refine x_c rfl ?_
            refine x_go rfl ?_
            exact tagdone (some 2) (by unfold fiW; rw [if_neg (by rw [hw9]; decide)]; unfold fiW; rw [if_neg (by rw [hw10]; decide)]; unfold fiW; rw [if_pos hw11])
          | false =>
            refine x_ifeq rfl (fun c => ?_) (fun c => absurd rfl c)
            refine x_al rfl rfl ?_
            refine x_str rfl ?_
            refine x_call2 (n_isWordK (k := 12) (p := wE t en p) (b := wS t en p) hT (by decide) tp_6 tp_8 wE_ge (by omega) hn) rfl (Nat.le_of_ble_eq_true rfl) (Or.inl (by first | exact hn | assumption)) (rcv_at (by first | exact rw_md hn | exact rw_w hn | exact rw_A hn (by exact rfl) | exact rw_B2 hn | exact rw_B3 hn | assumption) (by decide) (by decide)) (Nat.le_of_ble_eq_true rfl) (Nat.le_of_ble_eq_true rfl) (fun E w9 hq => hq.elim) ?_
            rintro v9 w9 ⟨rfl, rfl⟩
            rw [ht]
            cases hw12 : wdB t (wE t en p) (wS t en p) 12 with
            | true =>
              refine x_ifeq rfl (fun c => absurd c (show ¬ (1 : Int32) = 0 by decide)) (fun c => ?_)
              refine x_c rfl ?_
              refine x_go rfl ?_
              exact tagdone (some 3) (by unfold fiW; rw [if_neg (by rw [hw9]; decide)]; unfold fiW; rw [if_neg (by rw [hw10]; decide)]; unfold fiW; rw [if_neg (by rw [hw11]; decide)]; unfold fiW; rw [if_pos hw12])
            | false =>
              refine x_ifeq rfl (fun c => ?_) (fun c => absurd rfl c)
              refine x_c rfl ?_
              exact tagdone none (by unfold fiW; rw [if_neg (by rw [hw9]; decide)]; unfold fiW; rw [if_neg (by rw [hw10]; decide)]; unfold fiW; rw [if_neg (by rw [hw11]; decide)]; unfold fiW; rw [if_neg (by rw [hw12]; decide)]; rfl)
    refine x_ifeq rfl (fun c => ?_) (fun c => absurd rfl c)
    refine x_al rfl rfl ?_
    refine x_str rfl ?_
    refine x_call2 (n_passes (k := 8) (pt := wS t en p) hT (by decide) (hTp.tp e4) hn) rfl (Nat.le_of_ble_eq_true rfl) (Or.inl (by first | exact hn | assumption)) (rcv_at (by first | exact rw_md hn | exact rw_w hn | exact rw_A hn (by exact rfl) | exact rw_B2 hn | exact rw_B3 hn | assumption) (by decide) (by decide)) (Nat.le_of_ble_eq_true rfl) (Nat.le_of_ble_eq_true rfl) (fun E w9 hq => hq.elim) ?_
    rintro v9 w9 ⟨rfl, rfl⟩
    rw [ht, idE, idS]
    cases h8 : wdB t (wE t en p) (wS t en p) 8 with
    | false =>
      rw [if_neg (by rw [h8]; decide)] at hP
      rw [if_neg (by decide), tp_tp]
      refine x_ifeq rfl (fun c => ?_) (fun c => absurd rfl c)
      exact wordpart _ (hTp.tp e4) (by rw [tp_o (by decide)]; exact h9) (by rw [tp_o (by decide)]; exact h23) tp_k hP
    | true =>
      rw [if_pos h8] at hP
      rw [if_pos rfl, tp_tp]
      refine x_ifeq rfl (fun c => absurd c (show ¬ (1 : Int32) = 0 by decide)) (fun c => ?_)
      refine x_al rfl rfl ?_
      refine x_get rfl (rw_md hn) (by exact rfl) ?_
      rw [tp_o (by decide), h9]
      refine x_c rfl ?_
      cases dpst with
      | true =>
        have hd := hdp.mp rfl
        rw [if_pos rfl] at hP
        subst hP
        refine x_icneN (y := 6) rfl (by omega) (fun c => absurd hd c) (fun c => ?_)
        refine x_c rfl ?_
        refine x_retz rfl (Nat.le_of_ble_eq_true rfl) (Nat.le_of_ble_eq_true rfl) rfl (by first | rfl | assumption) ?_
        exact PQ_f rfl tp_k (fun _ _ => rfl)
      | false =>
        have hd : ¬ dp = 6 := fun h => absurd (hdp.mpr h) (by decide)
        rw [if_neg (by decide)] at hP
        refine x_icneN (y := 6) rfl (by omega) (fun c => ?_) (fun c => absurd c hd)
        refine x_al rfl rfl ?_
        refine x_dup rfl rfl ?_
        refine x_get rfl (rw_md hn) (by exact rfl) ?_
        refine x_c rfl ?_
        refine x_add rfl ?_
        refine x_putM rfl hn rfl rfl rfl (mset_9 _ _) ?_
        refine x_al rfl rfl ?_
        rw [tp_o (by decide), h9, show nI dp + 1 = nI (dp + 1) from nI_add dp 1]
        have hTp2 : Tp (upd (tp m (wE t en p) (wS t en p)) 9 (nI (dp + 1))) (wE t en p) en := ⟨rfl, by rw [pk_un (by decide), tp_o (by decide)]; exact hTp.2.1, e3, hTp.2.2.2⟩
        refine x_call1 ((hAt rfl) w _ f A B (wE t en p) st hn ht hTp2 pk_us (by rw [pk_un (by decide), tp_o (by decide)]; exact h23) (by omega)) rfl (Nat.le_of_ble_eq_true rfl) (Or.inl (by first | exact hn | assumption)) (rcv_at (by first | exact rw_md hn | exact rw_w hn | exact rw_A hn (by exact rfl) | exact rw_B2 hn | exact rw_B3 hn | assumption) (by decide) (by decide)) (Nat.le_of_ble_eq_true rfl) (Nat.le_of_ble_eq_true rfl) (fun E w9 hq => hq.elim) ?_
        rintro v9 w9 ⟨rfl, m2, f2, rfl, d1, d2, d3, d4⟩
        have hm2 : ∀ k, k ≠ 6 → k ≠ 8 → k ≠ 9 → k ≠ 23 → m2 k = m k := fun k h1 h2 h3 h4 => (d2 k h1 h2 h3 h4).trans (by rw [pk_un h3]; exact tp_o ⟨h1, h2⟩)
        have hIa := hIa.resolve_right (by decide)
        cases hok : (atom (wE t en p)).1 with
        | false =>
          rw [if_neg (by rw [hok]; decide)] at hP
          subst hP
          refine x_ifne rfl (fun c => absurd rfl c) (fun c => ?_)
          refine x_c rfl ?_
          refine x_retz rfl (Nat.le_of_ble_eq_true rfl) (Nat.le_of_ble_eq_true rfl) rfl (by first | rfl | assumption) ?_
          exact PQ_f d1 hm2 d3
        | true =>
          rw [if_pos hok] at hP
          obtain ⟨k1, k2, k3, k4⟩ := d4 hok
          have hb := hIa _ e3 hok
          have hl8 := wd_len h8
          have hl3 : txN 8 = 3 := by decide
          refine x_ifne rfl (fun c => ?_) (fun c => absurd c (show ¬ (1 : Int32) = 0 by decide))
          refine x_al rfl rfl ?_
          refine x_dup rfl rfl ?_
          refine x_get rfl (rw_md hn) (by exact rfl) ?_
          refine x_c rfl ?_
          refine x_sub rfl ?_
          refine x_putM rfl hn rfl rfl rfl (mset_9 _ _) ?_
          refine x_al rfl rfl ?_
          refine x_c rfl ?_
          refine x_c rfl ?_
          rw [k2, pk_us, show nI (dp + 1) - 1 = nI dp from nI_pred dp]
          refine x_call3 (n_emits (st := st + (atom (wE t en p)).2.2.2.length) (by rw [pk_un (by decide)]; exact k3) (by omega) hn) rfl (Nat.le_of_ble_eq_true rfl) (Or.inl (by first | exact hn | assumption)) (rcv_at (by first | exact rw_md hn | exact rw_w hn | exact rw_A hn (by exact rfl) | exact rw_B2 hn | exact rw_B3 hn | assumption) (by decide) (by decide)) (Nat.le_of_ble_eq_true rfl) (Nat.le_of_ble_eq_true rfl) (fun E w9 hq => hq.elim) ?_
          rintro v9 w9 ⟨rfl, rfl⟩
          refine x_c rfl ?_
          refine x_retz rfl (Nat.le_of_ble_eq_true rfl) (Nat.le_of_ble_eq_true rfl) rfl (by first | rfl | assumption) ?_
          subst hP
          refine ⟨rfl, _, _, rfl, ?_, fun k h1 h2 h3 h4 => (pk_un h4).trans ((pk_un h3).trans (hm2 k h1 h2 h3 h4)), fun i hi => ?_, fun _ => ⟨?_, ?_, ?_, ?_⟩⟩
          · rw [pk_un (by decide), pk_un (by decide)]; exact d1
          · rw [pk_un (by omega), pk_un (by omega)]; exact d3 i hi
          · rw [pk_un (by decide), pk_un (by decide)]; exact k1
          · rw [pk_un (by decide), pk_us, h9]
          · rw [pk_us]
            refine congrArg nI ?_
            show _ = st + ((atom (wE t en p)).2.2.2 ++ [(300, 0)]).length
            rw [List.length_append]
            rfl
          · show _ = wrL f st ((atom (wE t en p)).2.2.2 ++ [(300, 0)])
            rw [wrL_app, ← k4]
            rfl
/-- RdOK at a greater depth -/
theorem RdOK_up {D n mid dp en : Nat} {t : Nat → Int32} {item : Nat → PR} (h : RdOK g D mid t en dp item) : RdOK g (D + n) mid t en dp item := fun w m f A B p st h1 h2 h3 h4 h5 h6 => Ev_up g D n _ _ _ _ _ _ _ (fun _ _ q => q) (fun _ _ q => q) (h w m f A B p st h1 h2 h3 h4 h5 h6)
def eD (d : Nat) : Nat → Nat
  | 0 => d
  | r + 1 => eD d r + 3
theorem n_atom {t : Nat → Int32} (hT : HTx g) : ∀ r, r ≤ 6 → RdOK g (eD d r + 10) 251 t en (6 - r) (pAtom t en r) := by
  intro r
  induction r with
  | zero =>
    intro _
    exact n_atomF hT ⟨fun _ => rfl, fun _ => rfl⟩ (Nat.le_refl _) (Or.inr rfl) (Or.inr rfl) (fun h => by cases h) (fun h => by cases h)
  | succ r ih =>
    intro hr
    have h1 := ih (by omega)
    have b1 := pAtom_b t en r
    have h2 := n_readAllOf (e := eD d r + 3) hT b1 h1
    have b2 : IB en (pSeq (pAtom t en r) t en 18 301) := pSeq_b b1 (by decide)
    have h3 := n_readCond (e := eD d r + 4) hT b2 h2
    have b3 : IB en (pSeq (pSeq (pAtom t en r) t en 18 301) t en 19 302) := pSeq_b b2 (by decide)
    have e1 : 6 - (r + 1) + 1 = 6 - r := by omega
    refine n_atomF (e := eD d r + 3) hT ⟨fun h => absurd h (by decide), fun h => absurd h (by omega)⟩ (by omega) (Or.inl b3) (Or.inl b1) (fun _ => ?_) (fun _ => ?_)
    · rw [e1]; exact h3
    · rw [e1]; exact RdOK_up (n := 2) h1
/-- a whole condition -/
theorem n_cond {t : Nat → Int32} (hT : HTx g) : RdOK g (d + 30) 253 t en 0 (pCond t en 6) := by
  have h1 := n_atom (d := d) (en := en) (t := t) hT 6 (Nat.le_refl _)
  have b1 := pAtom_b t en 6
  have h2 := n_readAllOf (e := eD d 6 + 3) hT b1 h1
  exact n_readCond (e := eD d 6 + 4) hT (pSeq_b b1 (by decide)) h2
end READA
