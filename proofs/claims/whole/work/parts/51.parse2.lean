/-! reading of rows of atoms: mset_ -/
def RdOK (g : aG) (D mid : Nat) (t : Nat → Int32) (en dp : Nat) (item : Nat → PR) : Prop := ∀ (w : aW) (m f : Nat → Int32) (A : Nat → Nat → Int32) (B : Nat → Nat → Int64) (p st : Nat), w.1 = N0 → A 1427 = t → Tp m p en → m 9 = nI dp → m 23 = nI st → st ≤ p → Ev g D mid [.ref 1424] (rW w m f A B) (PQ w m f A B st (item p)) noX
section READ
variable {g : aG}
theorem n_readAllOf {e dp en : Nat} {t : Nat → Int32} {item : Nat → PR} (hT : HTx g) (hI : IB en item) (hA : RdOK g (e + 7) 251 t en dp item) : RdOK g (e + 8) 252 t en dp (pSeq item t en 18 301) := by
  intro w m f A B p st hn ht hTp h9 h23 hst
  generalize hP : pSeq item t en 18 301 p = P
  unfold pSeq at hP
  refine ev_X11_readAllOf ?_ (Nat.le_of_ble_eq_true rfl)
  refine x_lo (lo' := [some (.ref 1424)]) rfl ?_
  refine x_al rfl rfl ?_
  refine x_call1 (hA w m f A B p st hn ht hTp h9 h23 hst) rfl (Nat.le_of_ble_eq_true rfl) (Or.inl (by first | exact hn | assumption)) (rcv_at (by first | exact rw_md hn | exact rw_w hn | exact rw_A hn (by exact rfl) | exact rw_B2 hn | exact rw_B3 hn | assumption) (by decide) (by decide)) (Nat.le_of_ble_eq_true rfl) (Nat.le_of_ble_eq_true rfl) (fun E w9 hq => hq.elim) ?_
  rintro v9 w9 ⟨rfl, m', f', rfl, b1, b2, b3, b4⟩
  cases hok : (item p).1 with
  | false =>
    rw [if_neg (by rw [hok]; decide)] at hP
    subst hP
    refine x_ifne rfl (fun c => absurd rfl c) (fun c => ?_)
    refine x_c rfl ?_
    refine x_retz rfl (Nat.le_of_ble_eq_true rfl) (Nat.le_of_ble_eq_true rfl) rfl (by first | rfl | assumption) ?_
    exact ⟨rfl, m', f', rfl, b1, b2, b3, fun h => absurd h (by show ¬ false = true; decide)⟩
  | true =>
    rw [if_pos hok] at hP
    obtain ⟨c1, c2, c3, c4⟩ := b4 hok
    have hb := hI p hTp.2.2.1 hok
    refine x_ifne rfl (fun c => ?_) (fun c => absurd c (show ¬ (1 : Int32) = 0 by decide))
    have loop : ∀ n p1 L m1 f1, en - p1 < n → m1 6 = nI p1 → p1 ≤ en → p + L.length ≤ p1 → m1 9 = nI dp → m1 23 = nI (st + L.length) → f1 = wrL f st L → (∀ k, k ≠ 6 → k ≠ 8 → k ≠ 9 → k ≠ 23 → m1 k = m k) → pLoop item t en 18 301 n p1 L = P → EX g mbOf (Ev g (e + 7)) (infoOf 252) k_X11_readAllOf (PQ w m f A B st P) noX w.1 (rW w m1 f1 A B) 0 0 5 [some (.ref 1424)] [] := by
      intro n
      induction n with
      | zero => intro p1 L m1 f1 h; omega
      | succ n ih =>
        intro p1 L m1 f1 hn1 h6 hp1 hpL h9' h23' hf1 hm1 hR
        have hTp1 : Tp m1 p1 en := ⟨h6, (hm1 7 (by decide) (by decide) (by decide) (by decide)).trans hTp.2.1, hp1, hTp.2.2.2⟩
        unfold pLoop at hR
        refine x_al rfl rfl ?_
        refine x_str rfl ?_
        refine x_call2 (n_passes (k := 18) hT (by decide) hTp1 hn) rfl (Nat.le_of_ble_eq_true rfl) (Or.inl (by first | exact hn | assumption)) (rcv_at (by first | exact rw_md hn | exact rw_w hn | exact rw_A hn (by exact rfl) | exact rw_B2 hn | exact rw_B3 hn | assumption) (by decide) (by decide)) (Nat.le_of_ble_eq_true rfl) (Nat.le_of_ble_eq_true rfl) (fun E w9 hq => hq.elim) ?_
        rintro v9 w9 ⟨rfl, rfl⟩
        rw [ht]
        have e1 : wE t en p1 ≤ en := wE_le hp1
        have e2 : wS t en p1 ≤ en := wS_le hp1
        have e3 := wS_ge (t := t) (en := en) (p := p1)
        have e4 := wE_ge (t := t) (en := en) (p := p1)
        cases hw : wdB t (wE t en p1) (wS t en p1) 18 with
        | false =>
          rw [if_neg (by rw [hw]; decide)] at hR
          subst hR
          rw [if_neg (by decide)]
          refine x_ifeq rfl (fun c => ?_) (fun c => absurd rfl c)
          refine x_c rfl ?_
          refine x_retz rfl (Nat.le_of_ble_eq_true rfl) (Nat.le_of_ble_eq_true rfl) rfl (by first | rfl | assumption) ?_
          refine ⟨rfl, _, _, rfl, rfl, fun k h1 h2 h3 h4 => (tp_o ⟨h1, h2⟩).trans (hm1 k h1 h2 h3 h4), fun i hi => by rw [hf1]; exact wrL_lo _ _ _ _ (by omega), fun _ => ⟨rfl, ?_, ?_, hf1⟩⟩
          · rw [tp_o (by decide), h9', h9]
          · rw [tp_o (by decide), h23']
        | true =>
          rw [if_pos hw] at hR
          rw [if_pos rfl]
          have hlen := wd_len hw
          have hlen2 : 2 ≤ txN 18 := by decide
          refine x_ifeq rfl (fun c => absurd c (show ¬ (1 : Int32) = 0 by decide)) (fun c => ?_)
          refine x_al rfl rfl ?_
          refine x_call1 (hA w (tp m1 (wE t en p1) (wS t en p1)) f1 A B (wE t en p1) (st + L.length) hn ht (hTp1.tp e1) (by rw [tp_o (by decide)]; exact h9') (by rw [tp_o (by decide)]; exact h23') (by omega)) rfl (Nat.le_of_ble_eq_true rfl) (Or.inl (by first | exact hn | assumption)) (rcv_at (by first | exact rw_md hn | exact rw_w hn | exact rw_A hn (by exact rfl) | exact rw_B2 hn | exact rw_B3 hn | assumption) (by decide) (by decide)) (Nat.le_of_ble_eq_true rfl) (Nat.le_of_ble_eq_true rfl) (fun E w9 hq => hq.elim) ?_
          rintro v9 w9 ⟨rfl, m2, f2, rfl, d1, d2, d3, d4⟩
          have hm2 : ∀ k, k ≠ 6 → k ≠ 8 → k ≠ 9 → k ≠ 23 → m2 k = m k := fun k h1 h2 h3 h4 => (d2 k h1 h2 h3 h4).trans ((tp_o ⟨h1, h2⟩).trans (hm1 k h1 h2 h3 h4))
          cases hok2 : (item (wE t en p1)).1 with
          | false =>
            rw [if_neg (by rw [hok2]; decide)] at hR
            subst hR
            refine x_ifne rfl (fun c => absurd rfl c) (fun c => ?_)
            refine x_c rfl ?_
            refine x_retz rfl (Nat.le_of_ble_eq_true rfl) (Nat.le_of_ble_eq_true rfl) rfl (by first | rfl | assumption) ?_
            exact ⟨rfl, m2, f2, rfl, d1, hm2, fun i hi => (d3 i hi).trans (by rw [hf1]; exact wrL_lo _ _ _ _ (by omega)), fun h => absurd h (by show ¬ false = true; decide)⟩
          | true =>
            rw [if_pos hok2] at hR
            obtain ⟨k1, k2, k3, k4⟩ := d4 hok2
            have hb2 := hI _ e1 hok2
            refine x_ifne rfl (fun c => ?_) (fun c => absurd c (show ¬ (1 : Int32) = 0 by decide))
            refine x_al rfl rfl ?_
            refine x_c rfl ?_
            refine x_c rfl ?_
            refine x_call3 (n_emits k3 (by have := hTp.2.2.2; omega) hn) rfl (Nat.le_of_ble_eq_true rfl) (Or.inl (by first | exact hn | assumption)) (rcv_at (by first | exact rw_md hn | exact rw_w hn | exact rw_A hn (by exact rfl) | exact rw_B2 hn | exact rw_B3 hn | assumption) (by decide) (by decide)) (Nat.le_of_ble_eq_true rfl) (Nat.le_of_ble_eq_true rfl) (fun E w9 hq => hq.elim) ?_
            rintro v9 w9 ⟨rfl, rfl⟩
            refine x_go rfl ?_
            refine ih _ _ _ _ ?_ ?_ hb2.2.2 ?_ ?_ ?_ ?_ ?_ hR
            · omega
            · rw [pk_un (by decide)]; exact k1
            · rw [List.length_append, List.length_append]
              show p + (L.length + ((item (wE t en p1)).2.2.2.length + 1)) ≤ _
              omega
            · rw [pk_un (by decide), k2, tp_o (by decide)]; exact h9'
            · rw [pk_us, List.length_append, List.length_append]
              refine congrArg nI ?_
              show _ = st + (L.length + ((item (wE t en p1)).2.2.2.length + 1))
              omega
            · rw [wrL_app, wrL_app, ← hf1, ← k4]
              rfl
            · intro k h1 h2 h3 h4
              rw [pk_un h4]
              exact hm2 k h1 h2 h3 h4
    exact loop (en + 1) _ _ m' f' (by omega) c1 hb.2.2 hb.1 (c2.trans h9) c3 c4 b2 hP
theorem n_readCond {e dp en : Nat} {t : Nat → Int32} {item : Nat → PR} (hT : HTx g) (hI : IB en item) (hA : RdOK g (e + 7) 252 t en dp item) : RdOK g (e + 8) 253 t en dp (pSeq item t en 19 302) := by
  intro w m f A B p st hn ht hTp h9 h23 hst
  generalize hP : pSeq item t en 19 302 p = P
  unfold pSeq at hP
  refine ev_X11_readCond ?_ (Nat.le_of_ble_eq_true rfl)
  refine x_lo (lo' := [some (.ref 1424)]) rfl ?_
  refine x_al rfl rfl ?_
  refine x_call1 (hA w m f A B p st hn ht hTp h9 h23 hst) rfl (Nat.le_of_ble_eq_true rfl) (Or.inl (by first | exact hn | assumption)) (rcv_at (by first | exact rw_md hn | exact rw_w hn | exact rw_A hn (by exact rfl) | exact rw_B2 hn | exact rw_B3 hn | assumption) (by decide) (by decide)) (Nat.le_of_ble_eq_true rfl) (Nat.le_of_ble_eq_true rfl) (fun E w9 hq => hq.elim) ?_
  rintro v9 w9 ⟨rfl, m', f', rfl, b1, b2, b3, b4⟩
  cases hok : (item p).1 with
  | false =>
    rw [if_neg (by rw [hok]; decide)] at hP
    subst hP
    refine x_ifne rfl (fun c => absurd rfl c) (fun c => ?_)
    refine x_c rfl ?_
    refine x_retz rfl (Nat.le_of_ble_eq_true rfl) (Nat.le_of_ble_eq_true rfl) rfl (by first | rfl | assumption) ?_
    exact ⟨rfl, m', f', rfl, b1, b2, b3, fun h => absurd h (by show ¬ false = true; decide)⟩
  | true =>
    rw [if_pos hok] at hP
    obtain ⟨c1, c2, c3, c4⟩ := b4 hok
    have hb := hI p hTp.2.2.1 hok
    refine x_ifne rfl (fun c => ?_) (fun c => absurd c (show ¬ (1 : Int32) = 0 by decide))
    have loop : ∀ n p1 L m1 f1, en - p1 < n → m1 6 = nI p1 → p1 ≤ en → p + L.length ≤ p1 → m1 9 = nI dp → m1 23 = nI (st + L.length) → f1 = wrL f st L → (∀ k, k ≠ 6 → k ≠ 8 → k ≠ 9 → k ≠ 23 → m1 k = m k) → pLoop item t en 19 302 n p1 L = P → EX g mbOf (Ev g (e + 7)) (infoOf 253) k_X11_readCond (PQ w m f A B st P) noX w.1 (rW w m1 f1 A B) 0 0 5 [some (.ref 1424)] [] := by
      intro n
      induction n with
      | zero => intro p1 L m1 f1 h; omega
      | succ n ih =>
        intro p1 L m1 f1 hn1 h6 hp1 hpL h9' h23' hf1 hm1 hR
        have hTp1 : Tp m1 p1 en := ⟨h6, (hm1 7 (by decide) (by decide) (by decide) (by decide)).trans hTp.2.1, hp1, hTp.2.2.2⟩
        unfold pLoop at hR
        refine x_al rfl rfl ?_
        refine x_str rfl ?_
        refine x_call2 (n_passes (k := 19) hT (by decide) hTp1 hn) rfl (Nat.le_of_ble_eq_true rfl) (Or.inl (by first | exact hn | assumption)) (rcv_at (by first | exact rw_md hn | exact rw_w hn | exact rw_A hn (by exact rfl) | exact rw_B2 hn | exact rw_B3 hn | assumption) (by decide) (by decide)) (Nat.le_of_ble_eq_true rfl) (Nat.le_of_ble_eq_true rfl) (fun E w9 hq => hq.elim) ?_
        rintro v9 w9 ⟨rfl, rfl⟩
        rw [ht]
        have e1 : wE t en p1 ≤ en := wE_le hp1
        have e2 : wS t en p1 ≤ en := wS_le hp1
        have e3 := wS_ge (t := t) (en := en) (p := p1)
        have e4 := wE_ge (t := t) (en := en) (p := p1)
        cases hw : wdB t (wE t en p1) (wS t en p1) 19 with
        | false =>
          rw [if_neg (by rw [hw]; decide)] at hR
          subst hR
          rw [if_neg (by decide)]
          refine x_ifeq rfl (fun c => ?_) (fun c => absurd rfl c)
          refine x_c rfl ?_
          refine x_retz rfl (Nat.le_of_ble_eq_true rfl) (Nat.le_of_ble_eq_true rfl) rfl (by first | rfl | assumption) ?_
          refine ⟨rfl, _, _, rfl, rfl, fun k h1 h2 h3 h4 => (tp_o ⟨h1, h2⟩).trans (hm1 k h1 h2 h3 h4), fun i hi => by rw [hf1]; exact wrL_lo _ _ _ _ (by omega), fun _ => ⟨rfl, ?_, ?_, hf1⟩⟩
          · rw [tp_o (by decide), h9', h9]
          · rw [tp_o (by decide), h23']
        | true =>
          rw [if_pos hw] at hR
          rw [if_pos rfl]
          have hlen := wd_len hw
          have hlen2 : 2 ≤ txN 19 := by decide
          refine x_ifeq rfl (fun c => absurd c (show ¬ (1 : Int32) = 0 by decide)) (fun c => ?_)
          refine x_al rfl rfl ?_
          refine x_call1 (hA w (tp m1 (wE t en p1) (wS t en p1)) f1 A B (wE t en p1) (st + L.length) hn ht (hTp1.tp e1) (by rw [tp_o (by decide)]; exact h9') (by rw [tp_o (by decide)]; exact h23') (by omega)) rfl (Nat.le_of_ble_eq_true rfl) (Or.inl (by first | exact hn | assumption)) (rcv_at (by first | exact rw_md hn | exact rw_w hn | exact rw_A hn (by exact rfl) | exact rw_B2 hn | exact rw_B3 hn | assumption) (by decide) (by decide)) (Nat.le_of_ble_eq_true rfl) (Nat.le_of_ble_eq_true rfl) (fun E w9 hq => hq.elim) ?_
          rintro v9 w9 ⟨rfl, m2, f2, rfl, d1, d2, d3, d4⟩
          have hm2 : ∀ k, k ≠ 6 → k ≠ 8 → k ≠ 9 → k ≠ 23 → m2 k = m k := fun k h1 h2 h3 h4 => (d2 k h1 h2 h3 h4).trans ((tp_o ⟨h1, h2⟩).trans (hm1 k h1 h2 h3 h4))
          cases hok2 : (item (wE t en p1)).1 with
          | false =>
            rw [if_neg (by rw [hok2]; decide)] at hR
            subst hR
            refine x_ifne rfl (fun c => absurd rfl c) (fun c => ?_)
            refine x_c rfl ?_
            refine x_retz rfl (Nat.le_of_ble_eq_true rfl) (Nat.le_of_ble_eq_true rfl) rfl (by first | rfl | assumption) ?_
            exact ⟨rfl, m2, f2, rfl, d1, hm2, fun i hi => (d3 i hi).trans (by rw [hf1]; exact wrL_lo _ _ _ _ (by omega)), fun h => absurd h (by show ¬ false = true; decide)⟩
          | true =>
            rw [if_pos hok2] at hR
            obtain ⟨k1, k2, k3, k4⟩ := d4 hok2
            have hb2 := hI _ e1 hok2
            refine x_ifne rfl (fun c => ?_) (fun c => absurd c (show ¬ (1 : Int32) = 0 by decide))
            refine x_al rfl rfl ?_
            refine x_c rfl ?_
            refine x_c rfl ?_
            refine x_call3 (n_emits k3 (by have := hTp.2.2.2; omega) hn) rfl (Nat.le_of_ble_eq_true rfl) (Or.inl (by first | exact hn | assumption)) (rcv_at (by first | exact rw_md hn | exact rw_w hn | exact rw_A hn (by exact rfl) | exact rw_B2 hn | exact rw_B3 hn | assumption) (by decide) (by decide)) (Nat.le_of_ble_eq_true rfl) (Nat.le_of_ble_eq_true rfl) (fun E w9 hq => hq.elim) ?_
            rintro v9 w9 ⟨rfl, rfl⟩
            refine x_go rfl ?_
            refine ih _ _ _ _ ?_ ?_ hb2.2.2 ?_ ?_ ?_ ?_ ?_ hR
            · omega
            · rw [pk_un (by decide)]; exact k1
            · rw [List.length_append, List.length_append]
              show p + (L.length + ((item (wE t en p1)).2.2.2.length + 1)) ≤ _
              omega
            · rw [pk_un (by decide), k2, tp_o (by decide)]; exact h9'
            · rw [pk_us, List.length_append, List.length_append]
              refine congrArg nI ?_
              show _ = st + (L.length + ((item (wE t en p1)).2.2.2.length + 1))
              omega
            · rw [wrL_app, wrL_app, ← hf1, ← k4]
              rfl
            · intro k h1 h2 h3 h4
              rw [pk_un h4]
              exact hm2 k h1 h2 h3 h4
    exact loop (en + 1) _ _ m' f' (by omega) c1 hb.2.2 hb.1 (c2.trans h9) c3 c4 b2 hP
end READ
