/-! parts of the State kept when other things change; cw_ -/
section K
variable {F A F' A' : Nat → Nat → Int32} {f f' : Nat → Int32} {np nm nc nt ns nh : Nat}
theorem RsP.keep {q p : Nat} (h : RsP F A f q p) (hk : ∀ r, q ≤ r → r < q + 7 → F' r = F r ∧ A' r = A r) : RsP F' A' f q p := by
  unfold RsP CeA FoP LoD at h ⊢
  rw [(hk q (by omega) (by omega)).1, (hk (q + 2) (by omega) (by omega)).1, (hk (q + 1) (by omega) (by omega)).2, show q + 2 + 1 = q + 3 by omega, show q + 2 + 2 = q + 4 by omega, show q + 2 + 3 = q + 5 by omega, show q + 2 + 4 = q + 6 by omega, (hk (q + 3) (by omega) (by omega)).2, (hk (q + 4) (by omega) (by omega)).2, (hk (q + 5) (by omega) (by omega)).2, (hk (q + 6) (by omega) (by omega)).2]
  exact h
theorem RsP.cong {q p : Nat} (h : RsP F A f q p) (h8 : cN (f (5 + 97 * p + 64)) ≤ 8) (hc : ∀ i, 5 + 97 * p ≤ i → i < 5 + 97 * p + 97 → f' i = f i) : RsP F A f' q p := by
  have hs : sameP f f' p := fun i h1 h2 => hc i h1 (by omega)
  refine ⟨CeA_c hs h.1, FoP_c hs h.2.1, ?_, h.2.2.2⟩
  rw [hc (5 + 97 * p + 64) (by omega) (by omega)]
  exact LoD_c (fun i h1 h2 => hc i (by omega) (by omega)) h8 h.2.2.1
theorem RsM.keep {q k : Nat} (h : RsM F A f q k) (hk : ∀ r, q ≤ r → r < q + 6 → F' r = F r ∧ A' r = A r) : RsM F' A' f q k := by
  unfold RsM LoD at h ⊢
  rw [(hk q (by omega) (by omega)).1, (hk (q + 1) (by omega) (by omega)).1, show q + 1 + 1 = q + 2 by omega, show q + 1 + 2 = q + 3 by omega, show q + 1 + 3 = q + 4 by omega, show q + 1 + 4 = q + 5 by omega, (hk (q + 2) (by omega) (by omega)).2, (hk (q + 3) (by omega) (by omega)).2, (hk (q + 4) (by omega) (by omega)).2, (hk (q + 5) (by omega) (by omega)).2]
  exact h
theorem RsM.cong {q k : Nat} (h : RsM F A f q k) (h8 : cN (f (5826 + 39 * k + 6)) ≤ 8) (hc : ∀ i, 5826 + 39 * k ≤ i → i < 5826 + 39 * k + 39 → f' i = f i) : RsM F A f' q k := by
  have hl := LoD_c (f' := f') (fun i h1 h2 => hc i (by omega) (by omega)) h8 h.1
  have h2 := h.2
  unfold RsM
  rw [hc (5826 + 39 * k + 6) (by omega) (by omega), hc (5826 + 39 * k + 1) (by omega) (by omega), hc (5826 + 39 * k + 1 + 1) (by omega) (by omega), hc (5826 + 39 * k + 1 + 2) (by omega) (by omega), hc (5826 + 39 * k + 1 + 3) (by omega) (by omega), hc (5826 + 39 * k + 5) (by omega) (by omega), hc (5826 + 39 * k) (by omega) (by omega)]
  exact ⟨hl, h2⟩
theorem RsC.keep {q c : Nat} (h : RsC F A f q c) (hk : ∀ r, q ≤ r → r < q + 5 → F' r = F r ∧ A' r = A r) : RsC F' A' f q c := by
  unfold RsC at h ⊢
  rw [(hk q (by omega) (by omega)).1, (hk (q + 1) (by omega) (by omega)).2, (hk (q + 2) (by omega) (by omega)).2, (hk (q + 3) (by omega) (by omega)).2, (hk (q + 4) (by omega) (by omega)).2]
  exact h
theorem RsC.cong {q c : Nat} (h : RsC F A f q c) (hc : ∀ i, 6607 + 26 * c ≤ i → i < 6607 + 26 * c + 26 → f' i = f i) (hm : ∀ k j, k < 20 → j < 10 → (f' (7023 + 10 * (16 * k + c) + j) = 0 ↔ f (7023 + 10 * (16 * k + c) + j) = 0)) : RsC F A f' q c := by
  obtain ⟨h1, h2, h3⟩ := h
  refine ⟨?_, fun j hj => ?_, fun t ht => ?_⟩
  · rw [hc (6607 + 26 * c + 0) (by omega) (by omega), hc (6607 + 26 * c + 1) (by omega) (by omega), hc (6607 + 26 * c + 2) (by omega) (by omega)]
    exact h1
  · rw [hc (6607 + 26 * c + (6 + j)) (by omega) (by omega), hc (6607 + 26 * c + (16 + j)) (by omega) (by omega)]
    refine ⟨(h2 j hj).1, (h2 j hj).2.1, fun k hk => ?_⟩
    rw [(h2 j hj).2.2 k hk]
    exact dec_congr (not_congr (hm k j hk hj)).symm
  · rw [hc (6607 + 26 * c + (3 + t)) (by omega) (by omega)]
    exact h3 t ht
theorem TxS.keep {q t r : Nat} (h : TxS F A q f t r) (hk : ∀ r, q ≤ r → r < q + 6 → F' r = F r ∧ A' r = A r) : TxS F' A' q f t r := by
  unfold TxS at h ⊢
  rw [(hk q (by omega) (by omega)).1, (hk (q + 1) (by omega) (by omega)).2, (hk (q + 2) (by omega) (by omega)).2, (hk (q + 3) (by omega) (by omega)).2, (hk (q + 4) (by omega) (by omega)).2, (hk (q + 5) (by omega) (by omega)).2]
  exact h
theorem RsTab.keep {q wd a n : Nat} (h : RsTab F A q wd a f n) (h1 : F' q = F q) (h2 : A' (q + 1) = A (q + 1)) : RsTab F' A' q wd a f n := by
  unfold RsTab at h ⊢
  rw [h1, h2]
  exact h
theorem RsTab.cong {q wd a n : Nat} (h : RsTab F A q wd a f n) (hc : ∀ i, a ≤ i → i < a + wd * n → f' i = f i) : RsTab F A q wd a f' n := by
  refine ⟨h.1, fun r hr c hcw => ?_⟩
  have hlt : wd * r + c < wd * n := by
    have := Nat.mul_le_mul_left wd (show r + 1 ≤ n by omega)
    rw [Nat.mul_add] at this
    omega
  rw [hc (a + wd * r + c) (by omega) (by omega)]
  exact h.2 r hr c hcw
/-- the world changed only in what the desk writes: all but its own things stays -/
theorem RS.desk {nh' : Nat} (hR : RS F A f 6 np nm nc nt ns nh) (hI : IV f np nm nc nt ns nh) (hd : agD f f') (h3 : F' 6 3 = f' 3) (h0 : ∀ k, k ≠ 3 → F' 6 k = F 6 k) (hF : ∀ q, 7 ≤ q → q < 701 → q ≠ 19 → F' q = F q) (hA : ∀ q, 6 ≤ q → q < 701 → q ≠ 20 → (q < 561 ∨ 641 ≤ q) → A' q = A q) (hC : ∀ c, c < nc → RsC F' A' f' (561 + 5 * c) c) (hH : RsTab F' A' 19 7 11425 f' nh') : RS F' A' f' 6 np nm nc nt ns nh' := by
  have h60 := hI.p60; have h20 := hI.m20; have h16 := hI.c16; have h10 := hI.t10; have h200 := hI.s200
  have hnd : ∀ i, i ≠ 3 → (i < 7023 ∨ (10223 ≤ i ∧ i < 11424) ∨ 12825 ≤ i) → f' i = f i := fun i h1 h2 => hd i (fun h => by unfold dkC at h; omega)
  obtain ⟨r0, r1, r2, r3, r4, r5, r6, r7⟩ := hR.1
  refine ⟨⟨?_, ?_, ?_, h3, ?_, ?_, ?_, ?_⟩, fun p hp => ?_, fun k hk => ?_, hC, fun t ht => ?_, ?_, ?_, hH⟩
  · rw [h0 0 (by decide), hnd 0 (by decide) (by omega)]; exact r0
  · rw [h0 1 (by decide), hnd 1 (by decide) (by omega)]; exact r1
  · rw [h0 2 (by decide), hnd 2 (by decide) (by omega)]; exact r2
  · rw [h0 4 (by decide)]; exact r4
  · rw [h0 5 (by decide)]; exact r5
  · rw [h0 6 (by decide)]; exact r6
  · rw [h0 7 (by decide)]; exact r7
  · exact ((hR.pr hp).keep (fun r h1 h2 => ⟨hF r (by omega) (by omega) (by omega), hA r (by omega) (by omega) (by omega) (by omega)⟩)).cong (wp_p hI.wp (by omega)) (fun i h1 h2 => hnd i (by omega) (by omega))
  · exact ((hR.ma hk).keep (fun r h1 h2 => ⟨hF r (by omega) (by omega) (by omega), hA r (by omega) (by omega) (by omega) (by omega)⟩)).cong (wp_m hI.wp (by omega)) (fun i h1 h2 => hnd i (by omega) (by omega))
  · obtain ⟨r, hr⟩ := hR.tx ht
    exact ⟨r, TxS_c (fun i hi => hnd i (by omega) (by omega)) (hr.keep (fun r h1 h2 => ⟨hF r (by omega) (by omega) (by omega), hA r (by omega) (by omega) (by omega) (by omega)⟩))⟩
  · show F' 11 1 = 0
    rw [hF 11 (by omega) (by omega) (by omega)]; exact hR.no
  · exact (hR.sa.keep (hF 17 (by omega) (by omega) (by omega)) (hA 18 (by omega) (by omega) (by omega) (by omega))).cong (fun i h1 h2 => hnd i (by omega) (by omega))
/-- what always holds is not touched by the desk, but for the number of hits -/
theorem IV.desk {nh' : Nat} (hI : IV f np nm nc nt ns nh) (hd : agD f f') (hh : f' 11424 = nI nh') (h200' : nh' ≤ 200) (hz : ∀ k c j, k < 20 → nc ≤ c → c < 16 → j < 10 → f' (7023 + 10 * (16 * k + c) + j) = 0) : IV f' np nm nc nt ns nh' := by
  have h60 := hI.p60; have h20 := hI.m20; have h16 := hI.c16; have h10 := hI.t10; have h200 := hI.s200
  have hnd : ∀ i, i ≠ 3 → (i < 7023 ∨ (10223 ≤ i ∧ i < 11424) ∨ 12825 ≤ i) → f' i = f i := fun i h1 h2 => hd i (fun h => by unfold dkC at h; omega)
  obtain ⟨⟨c1, c2, c3, c4, c5, c6⟩, ⟨n1, n2⟩, hW, ⟨hp1, hp2⟩, ⟨hm1, hm2⟩, ⟨hc1, hc2⟩, ht, hs⟩ := hI
  refine ⟨⟨?_, ?_, ?_, ?_, ?_, ⟨hh, h200'⟩⟩, ⟨?_, ?_⟩, WP_c (fun i h1 h2 => hnd i (by omega) (by omega)) hW, ⟨fun p hp => ?_, fun p h1 h2 => ?_⟩, ⟨fun k hk => ?_, fun k h1 h2 => ?_⟩, ⟨fun c hc => ?_, hz⟩, fun t htn => ?_, fun r hr => ?_⟩
  · rw [hnd 4 (by omega) (by omega)]; exact c1
  · rw [hnd 5825 (by omega) (by omega)]; exact c2
  · rw [hnd 6606 (by omega) (by omega)]; exact c3
  · rw [hnd 12825 (by omega) (by omega)]; exact c4
  · rw [hnd 10223 (by omega) (by omega)]; exact c5
  · rw [hnd 0 (by omega) (by omega)]; exact n1
  · rw [hnd 2 (by omega) (by omega)]; exact n2
  · exact CeR_c (fun i h1 h2 => hnd i (by omega) (by omega)) (hp1 p hp)
  · rw [hnd _ (by omega) (by omega)]; exact hp2 p h1 h2
  · rw [hnd _ (by omega) (by omega), hnd _ (by omega) (by omega)]; exact hm1 k hk
  · rw [hnd _ (by omega) (by omega)]; exact hm2 k h1 h2
  · obtain ⟨a1, a2, a3, a4, a5⟩ := hc1 c hc
    refine ⟨by rw [hnd _ (by omega) (by omega)]; exact a1, by rw [hnd _ (by omega) (by omega)]; exact a2, fun t ht => by rw [hnd _ (by omega) (by omega)]; exact a3 t ht, fun j hj => by rw [hnd _ (by omega) (by omega), hnd _ (by omega) (by omega)]; exact a4 j hj, ?_⟩
    rw [cn_c (P' := fun j => decide (0 ≤ f (6607 + 26 * c + (16 + j)))) 10 (fun j hj => by rw [hnd _ (by omega) (by omega)])]
    exact a5
  · rw [hnd _ (by omega) (by omega)]; exact ht t htn
  · have := hs r hr
    unfold SaI at this ⊢
    rw [hnd (10224 + 6 * r) (by omega) (by omega), hnd (10224 + 6 * r + 1) (by omega) (by omega), hnd (10224 + 6 * r + 2) (by omega) (by omega), hnd (10224 + 6 * r + 3) (by omega) (by omega), hnd (10224 + 6 * r + 4) (by omega) (by omega), hnd (10224 + 6 * r + 5) (by omega) (by omega)]
    exact this
theorem vM_c {n k p : Nat} {day : Int32} (hd : agD f f') (hW : WP f) (hk : k < 20) (hp : p < 60) : vM f' n k p day = vM f n k p day := by
  have hnd : ∀ i, i ≠ 3 → (i < 7023 ∨ (10223 ≤ i ∧ i < 11424) ∨ 12825 ≤ i) → f' i = f i := fun i h1 h2 => hd i (fun h => by unfold dkC at h; omega)
  have hT : samT f f' := fun i hi => hnd i (by omega) (by omega)
  unfold vM
  rw [judF_c hT, bestT_c hT]
  have e1 : tgM f' k = tgM f k := by unfold tgM; rw [hnd (5826 + 39 * k + 5) (by omega) (by omega)]
  have e2 : fcM f' k p day = fcM f k p day := by
    unfold fcM
    rw [layMk_c (f := f) (f' := f') (hnd 1 (by omega) (by omega)) (fun i h1 h2 => hnd i (by omega) (by omega)) (fun i h1 h2 => hnd i (by omega) (by omega)) (wp_p hW hp) (wp_m hW hk), hnd (5826 + 39 * k + 6) (by omega) (by omega), clsF_c (f := f) (f' := f') (fun i h1 h2 => hnd i (by omega) (by omega)), hnd (5826 + 39 * k) (by omega) (by omega)]
  rw [e1, e2]
end K
