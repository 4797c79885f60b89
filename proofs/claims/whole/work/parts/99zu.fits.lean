/-! the constructed objects are those of the class's world; cw_ -/
def intF (o : bO) (k : Nat) : Int32 := match o with
  | .inr (_, fs) => (match fs[k]? with
    | some (.int x) => x
    | _ => 0)
  | .inl _ => 0
def fitO (q : Nat) (o : bO) : Prop := ∀ e, cE (fun _ => intF o) (fun _ _ => 0) (fun _ => 0) q e (shp q) = bD o
def fitsL : Nat → List bO → Prop
  | _, [] => True
  | b, o :: r => fitO b o ∧ fitsL (b + 1) r
theorem fits_app : ∀ (xs ys : List bO) (b : Nat), fitsL b xs → fitsL (b + xs.length) ys → fitsL b (xs ++ ys) := by
  intro xs
  induction xs with
  | nil => intro ys b _ h; exact h
  | cons o r ih =>
    intro ys b h1 h2
    refine ⟨h1.1, ih ys (b + 1) h1.2 ?_⟩
    rw [show b + 1 + r.length = b + (o :: r).length from by rw [List.length_cons]; omega]
    exact h2
theorem fits_apn (xs ys : List bO) (b n c : Nat) (hn : xs.length = n) (h1 : fitsL b xs) (hc : b + n = c) (h2 : fitsL c ys) : fitsL b (xs ++ ys) := fits_app xs ys b h1 (by rw [hn, hc]; exact h2)
theorem fits_get : ∀ (xs : List bO) (b i : Nat) (o : bO), fitsL b xs → xs[i]? = some o → fitO (b + i) o := by
  intro xs
  induction xs with
  | nil => intro b i o _ h; cases h
  | cons x r ih =>
    intro b i o h1 h2
    cases i with
    | zero =>
      obtain rfl : x = o := Option.some.inj h2
      exact h1.1
    | succ i =>
      rw [show b + (i + 1) = b + 1 + i by omega]
      exact ih (b + 1) i o h1.2 h2
theorem fits_blk {P : Nat → List bO} {b s : Nat} (hP : ∀ y, (P y).length = s) : ∀ n, (∀ i, i < n → fitsL (b + s * i) (P (b + s * i))) → fitsL b (blk P b s n) := by
  intro n
  induction n with
  | zero => intro _; trivial
  | succ n ih =>
    intro h
    refine fits_app _ _ b (ih fun i hi => h i (by omega)) ?_
    rw [blk_len hP]
    exact h n (by omega)
theorem fit_i {q n : Nat} (h : shp q = .ia n) : fitO q (.inl (0, n, [])) := fun e => by
  rw [h]
  rfl
theorem fit_l {q n : Nat} (h : shp q = .la n) : fitO q (.inl (1, n, [])) := fun e => by
  rw [h]
  rfl
theorem fit_f {q ci : Nat} {l : List (Option Value)} {fs : List Value} (h : shp q = .fs ci l) (hf : mkL (intF (.inr (ci, fs))) 0 l = fs) : fitO q (.inr (ci, fs)) := fun e => by
  rw [h]
  show (.inr (ci, mkL (intF (.inr (ci, fs))) 0 l) : va_E) = .inr (ci, fs)
  rw [hf]
theorem fit_r {q t n b s : Nat} (h : shp q = .ra t n b s) (ht : 4 ≤ t) : fitO q (.inl (t, n, rs b s n)) := fun e => by
  rw [h, bD_ra ht, show (fun i => (rs b s n)[i]?) = fun i => if i < n then some (b + s * i) else none from funext fun i => rs_at n i]
  rfl
theorem fit_sheet {q : Nat} (h : ∀ r, r < 5 → shp (q + r) = shSheet q r) : fitsL q (oSheet q) := And.intro (fit_f (h 0 (by decide)) rfl) (And.intro (fit_i (h 1 (by decide))) (And.intro (fit_i (h 2 (by decide))) (And.intro (fit_i (h 3 (by decide))) (And.intro (fit_i (h 4 (by decide))) trivial))))
theorem fit_print {q : Nat} (h : ∀ r, r < 7 → shp (q + r) = shPrint q r) : fitsL q (oPrint q) := And.intro (fit_f (h 0 (by decide)) rfl) (And.intro (fit_i (h 1 (by decide))) (fit_sheet (q := q + 2) fun r hr => by
  rw [Nat.add_assoc, h (2 + r) (by omega)]
  unfold shPrint
  rw [if_neg (by omega), if_neg (by omega), show 2 + r - 2 = r by omega]))
theorem fit_mark {q : Nat} (h : ∀ r, r < 6 → shp (q + r) = shMark q r) : fitsL q (oMark q) := And.intro (fit_f (h 0 (by decide)) rfl) (fit_sheet (q := q + 1) fun r hr => by
  rw [Nat.add_assoc, h (1 + r) (by omega)]
  unfold shMark
  rw [if_neg (by omega), show 1 + r - 1 = r by omega])
theorem fit_card {q : Nat} (h : ∀ r, r < 5 → shp (q + r) = shCard q r) : fitsL q (oCard q) := And.intro (fit_f (h 0 (by decide)) rfl) (And.intro (fit_i (h 1 (by decide))) (And.intro (fit_i (h 2 (by decide))) (And.intro (fit_i (h 3 (by decide))) (And.intro (fit_i (h 4 (by decide))) trivial))))
theorem fit_text {q : Nat} (h : ∀ r, r < 6 → shp (q + r) = shText q r) : fitsL q (oText q) := And.intro (fit_f (h 0 (by decide)) rfl) (And.intro (fit_i (h 1 (by decide))) (And.intro (fit_i (h 2 (by decide))) (And.intro (fit_i (h 3 (by decide))) (And.intro (fit_i (h 4 (by decide))) (And.intro (fit_i (h 5 (by decide))) trivial)))))
theorem fit_tab6 {q : Nat} (h : ∀ r, r < 2 → shp (q + r) = shTab 200 6 q r) : fitsL q (oTab 6 1200 q) := And.intro (fit_f (h 0 (by decide)) rfl) (And.intro (fit_i (h 1 (by decide))) trivial)
theorem fit_tab7 {q : Nat} (h : ∀ r, r < 2 → shp (q + r) = shTab 200 7 q r) : fitsL q (oTab 7 1400 q) := And.intro (fit_f (h 0 (by decide)) rfl) (And.intro (fit_i (h 1 (by decide))) trivial)
theorem fit_hd {B : Nat} (hB : B = 6 ∨ B = 701) : fitsL B (hdS B (rs (B + 15) 7 60) (rs (B + 435) 6 20) (rs (B + 555) 5 16) (rs (B + 635) 6 10)) := by
  have t5 : fitsL (B + 5) (oText (B + 5)) := fit_text fun r hr => by
    rw [Nat.add_assoc, shp_st hB (by omega)]
    unfold shSt
    iterate 5 rw [if_neg (by omega)]
    rw [if_pos (by omega), show 5 + r - 5 = r by omega]
  have t11 : fitsL (B + 11) (oTab 6 1200 (B + 11)) := fit_tab6 fun r hr => by
    rw [Nat.add_assoc, shp_st hB (by omega)]
    unfold shSt
    iterate 6 rw [if_neg (by omega)]
    rw [if_pos (by omega), show 11 + r - 11 = r by omega]
  have t13 : fitsL (B + 13) (oTab 7 1400 (B + 13)) := fit_tab7 fun r hr => by
    rw [Nat.add_assoc, shp_st hB (by omega)]
    unfold shSt
    iterate 7 rw [if_neg (by omega)]
    rw [if_pos (by omega), show 13 + r - 13 = r by omega]
  have c1 := fits_apn _ _ (B + 5) 6 (B + 11) rfl t5 rfl t11
  have c2 := fits_apn _ _ (B + 5) 8 (B + 13) rfl c1 rfl t13
  have d0 : fitO B (.inr (7, stF B)) := fit_f (shp_st hB (r := 0) (by decide)) rfl
  have d1 : fitO (B + 1) (.inl (4, 60, rs (B + 15) 7 60)) := fit_r (shp_st hB (r := 1) (by decide)) (by decide)
  have d2 : fitO (B + 2) (.inl (5, 20, rs (B + 435) 6 20)) := fit_r (shp_st hB (r := 2) (by decide)) (by decide)
  have d3 : fitO (B + 3) (.inl (6, 16, rs (B + 555) 5 16)) := fit_r (shp_st hB (r := 3) (by decide)) (by decide)
  have d4 : fitO (B + 4) (.inl (7, 10, rs (B + 635) 6 10)) := fit_r (shp_st hB (r := 4) (by decide)) (by decide)
  exact And.intro d0 (And.intro d1 (And.intro d2 (And.intro d3 (And.intro d4 c2))))
theorem fits_4 {p0 p1 p2 p3 p4 : List bO} {B : Nat} (h0 : p0.length = 15) (n1 : p1.length = 420) (n2 : p2.length = 120) (n3 : p3.length = 80) (hd : fitsL B p0) (b1 : fitsL (B + 15) p1) (b2 : fitsL (B + 435) p2) (b3 : fitsL (B + 555) p3) (b4 : fitsL (B + 635) p4) : fitsL B (p0 ++ p1 ++ p2 ++ p3 ++ p4) := by
  have c1 := fits_apn p0 p1 B 15 (B + 15) h0 hd rfl b1
  have c2 := fits_apn (p0 ++ p1) p2 B 435 (B + 435) (by rw [List.length_append, h0, n1]) c1 rfl b2
  have c3 := fits_apn (p0 ++ p1 ++ p2) p3 B 555 (B + 555) (by rw [List.length_append, List.length_append, h0, n1, n2]) c2 rfl b3
  exact fits_apn (p0 ++ p1 ++ p2 ++ p3) p4 B 635 (B + 635) (by rw [List.length_append, List.length_append, List.length_append, h0, n1, n2, n3]) c3 rfl b4
theorem fit_b1 {B n : Nat} (hB : B = 6 ∨ B = 701) (hn : n ≤ 60) : fitsL (B + 15) (blk oPrint (B + 15) 7 n) := fits_blk (P := oPrint) (b := B + 15) (s := 7) (fun _ => bl_print) n (fun i hi => fit_print fun r hr => shp_print hB (Nat.lt_of_lt_of_le hi hn) hr)
theorem fit_b2 {B n : Nat} (hB : B = 6 ∨ B = 701) (hn : n ≤ 20) : fitsL (B + 435) (blk oMark (B + 435) 6 n) := fits_blk (P := oMark) (b := B + 435) (s := 6) (fun _ => rfl) n (fun i hi => fit_mark fun r hr => shp_mark hB (Nat.lt_of_lt_of_le hi hn) hr)
theorem fit_b3 {B n : Nat} (hB : B = 6 ∨ B = 701) (hn : n ≤ 16) : fitsL (B + 555) (blk oCard (B + 555) 5 n) := fits_blk (P := oCard) (b := B + 555) (s := 5) (fun _ => rfl) n (fun i hi => fit_card fun r hr => shp_card hB (Nat.lt_of_lt_of_le hi hn) hr)
theorem fit_b4 {B n : Nat} (hB : B = 6 ∨ B = 701) (hn : n ≤ 10) : fitsL (B + 635) (blk oText (B + 635) 6 n) := fits_blk (P := oText) (b := B + 635) (s := 6) (fun _ => rfl) n (fun i hi => fit_text fun r hr => shp_text hB (Nat.lt_of_lt_of_le hi hn) hr)
theorem bk_1 {b n : Nat} : (blk oPrint b 7 n).length = 7 * n := blk_len (P := oPrint) (fun _ => bl_print) n
theorem bk_2 {b n : Nat} : (blk oMark b 6 n).length = 6 * n := blk_len (P := oMark) (fun _ => rfl) n
theorem bk_3 {b n : Nat} : (blk oCard b 5 n).length = 5 * n := blk_len (P := oCard) (fun _ => rfl) n
theorem fits_5 {p0 : List bO} {B n1 n2 n3 n4 : Nat} (hB : B = 6 ∨ B = 701) (h0 : p0.length = 15) (hd : fitsL B p0) (e1 : n1 = 60) (e2 : n2 = 20) (e3 : n3 = 16) (e4 : n4 = 10) : fitsL B (p0 ++ blk oPrint (B + 15) 7 n1 ++ blk oMark (B + 435) 6 n2 ++ blk oCard (B + 555) 5 n3 ++ blk oText (B + 635) 6 n4) := fits_4 h0 (bk_1.trans (by rw [e1])) (bk_2.trans (by rw [e2])) (bk_3.trans (by rw [e3])) hd (fit_b1 hB (by omega)) (fit_b2 hB (by omega)) (fit_b3 hB (by omega)) (fit_b4 hB (by omega))
theorem fit_state {B : Nat} (hB : B = 6 ∨ B = 701) : fitsL B (oState B) := by
  have hd := fit_hd hB
  have h := fun (n1 n2 n3 n4 : Nat) => fits_5 (n1 := n1) (n2 := n2) (n3 := n3) (n4 := n4) hB (p0 := hdS B (rs (B + 15) 7 60) (rs (B + 435) 6 20) (rs (B + 555) 5 16) (rs (B + 635) 6 10)) rfl hd
  have h2 := h 60 20 16 10 rfl rfl rfl rfl
  unfold oState
  exact h2
theorem fit_bureau : fitsL 0 (oBureau 0) := by
  refine And.intro (fit_f rfl rfl) ?_
  have h6 : fitsL 1 (oTape 1) := And.intro (fit_f rfl rfl) (And.intro (fit_i rfl) (And.intro (fit_i rfl) (And.intro (fit_i rfl) (And.intro (fit_i rfl) trivial))))
  have hl : fitsL 1396 (oLays 1396) := And.intro (fit_f rfl rfl) (fits_apn _ _ 1397 7 1404 rfl (fits_apn _ _ 1397 6 1403 rfl (fits_apn _ _ 1397 5 1402 rfl (fit_sheet fun r hr => by
    rcases r with _ | _ | _ | _ | _ | r
    · rfl
    · rfl
    · rfl
    · rfl
    · rfl
    · omega) rfl (And.intro (fit_i rfl) trivial)) rfl (And.intro (fit_i rfl) trivial)) rfl (And.intro (fit_i rfl) trivial))
  have hn : fitsL 1405 (oNums 1405) := And.intro (fit_f rfl rfl) (And.intro (fit_l rfl) trivial)
  have hp : fitsL 1407 (oPrint 1407) := fit_print fun r hr => by
    rcases r with _ | _ | _ | _ | _ | _ | _ | r
    · rfl
    · rfl
    · rfl
    · rfl
    · rfl
    · rfl
    · rfl
    · omega
  have ht : fitsL 1414 (oText 1414) := fit_text fun r hr => by
    rcases r with _ | _ | _ | _ | _ | _ | r
    · rfl
    · rfl
    · rfl
    · rfl
    · rfl
    · rfl
    · omega
  have n6 : (oTape 1).length = 5 := rfl
  have a1 : fitsL 1 (oTape 1 ++ oState 6) := fits_apn _ _ 1 5 6 rfl h6 rfl (fit_state (Or.inl rfl))
  have n1 : (oTape 1 ++ oState 6).length = 700 := by rw [List.length_append, oState_len, n6]
  have a2 := fits_apn _ _ 1 700 701 n1 a1 rfl (fit_state (Or.inr rfl))
  have n2 : (oTape 1 ++ oState 6 ++ oState 701).length = 1395 := by rw [List.length_append, oState_len, n1]
  have a3 := fits_apn _ _ 1 1395 1396 n2 a2 rfl hl
  have n3 : (oTape 1 ++ oState 6 ++ oState 701 ++ oLays 1396).length = 1404 := by rw [List.length_append, bl_lays, n2]
  have a4 := fits_apn _ _ 1 1404 1405 n3 a3 rfl hn
  have n4 : (oTape 1 ++ oState 6 ++ oState 701 ++ oLays 1396 ++ oNums 1405).length = 1406 := by rw [List.length_append, bl_nums, n3]
  have a5 := fits_apn _ _ 1 1406 1407 n4 a4 rfl hp
  have n5 : (oTape 1 ++ oState 6 ++ oState 701 ++ oLays 1396 ++ oNums 1405 ++ oPrint 1407).length = 1413 := by rw [List.length_append, bl_print, n4]
  have a6 := fits_apn _ _ 1 1413 1414 n5 a5 rfl ht
  have n7 : (oTape 1 ++ oState 6 ++ oState 701 ++ oLays 1396 ++ oNums 1405 ++ oPrint 1407 ++ oText 1414).length = 1419 := by rw [List.length_append, bl_text, n5]
  have a7 := fits_apn _ [.inl (0, 16, [])] 1 1419 1420 n7 a6 rfl (And.intro (fit_i rfl) trivial)
  have n8 : (oTape 1 ++ oState 6 ++ oState 701 ++ oLays 1396 ++ oNums 1405 ++ oPrint 1407 ++ oText 1414 ++ [(.inl (0, 16, []) : bO)]).length = 1420 := (List.length_append).trans (by rw [n7]; rfl)
  have a8 := fits_apn _ [.inl (0, 16, [])] 1 1420 1421 n8 a7 rfl (And.intro (fit_i rfl) trivial)
  have n9 : (oTape 1 ++ oState 6 ++ oState 701 ++ oLays 1396 ++ oNums 1405 ++ oPrint 1407 ++ oText 1414 ++ [(.inl (0, 16, []) : bO)] ++ [(.inl (0, 16, []) : bO)]).length = 1421 := (List.length_append).trans (by rw [n8]; rfl)
  have a9 := fits_apn _ [.inl (0, 6, [])] 1 1421 1422 n9 a8 rfl (And.intro (fit_i rfl) trivial)
  have n10 : (oTape 1 ++ oState 6 ++ oState 701 ++ oLays 1396 ++ oNums 1405 ++ oPrint 1407 ++ oText 1414 ++ [(.inl (0, 16, []) : bO)] ++ [(.inl (0, 16, []) : bO)] ++ [(.inl (0, 6, []) : bO)]).length = 1422 := (List.length_append).trans (by rw [n9]; rfl)
  exact fits_apn _ [.inl (0, 16, [])] 1 1422 1423 n10 a9 rfl (And.intro (fit_i rfl) trivial)
