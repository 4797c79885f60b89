/-! where the class's own objects lie, and their shapes; cw_ -/
theorem sp_0 : shp 0 = .fs 10 [rfO 1, rfO 6, rfO 701, none, rfO 1396, rfO 1405, rfO 1407, rfO 1414, rfO 1420, rfO 1421, rfO 1422, rfO 1423] := rfl
theorem sp_1 : shp 1 = .fs 9 [rfO 2, none, none, rfO 3, rfO 4, rfO 5, none, none] := rfl
theorem sp_2 : shp 2 = .ia 400 := rfl
theorem sp_3 : shp 3 = .ia 400 := rfl
theorem sp_4 : shp 4 = .ia 400 := rfl
theorem sp_5 : shp 5 = .ia 400 := rfl
theorem sp_6 : shp 6 = .fs 7 [none, none, none, none, none, none, none, none, rfO 7, rfO 8, rfO 9, rfO 10, rfO 11, rfO 17, rfO 19] := rfl
theorem sp_701 : shp 701 = .fs 7 [none, none, none, none, none, none, none, none, rfO 702, rfO 703, rfO 704, rfO 705, rfO 706, rfO 712, rfO 714] := rfl
theorem sp_7 : shp 7 = .ra 4 60 21 7 := rfl
theorem sp_8 : shp 8 = .ra 5 20 441 6 := rfl
theorem sp_9 : shp 9 = .ra 6 16 561 5 := rfl
theorem sp_10 : shp 10 = .ra 7 10 641 6 := rfl
theorem sp_702 : shp 702 = .ra 4 60 716 7 := rfl
theorem sp_703 : shp 703 = .ra 5 20 1136 6 := rfl
theorem sp_704 : shp 704 = .ra 6 16 1256 5 := rfl
theorem sp_705 : shp 705 = .ra 7 10 1336 6 := rfl
theorem sp_1396 : shp 1396 = .fs 2 [none, none, none, none, none, none, rfO 1397, rfO 1402, rfO 1403, none, rfO 1404, none] := rfl
theorem sp_1402 : shp 1402 = .ia 8 := rfl
theorem sp_1403 : shp 1403 = .ia 8 := rfl
theorem sp_1404 : shp 1404 = .ia 28800 := rfl
theorem sp_1405 : shp 1405 = .fs 1 [rfO 1406, none] := rfl
theorem sp_1406 : shp 1406 = .la 5 := rfl
theorem sp_1420 : shp 1420 = .ia 16 := rfl
theorem sp_1421 : shp 1421 = .ia 16 := rfl
theorem sp_1422 : shp 1422 = .ia 6 := rfl
theorem sp_1423 : shp 1423 = .ia 16 := rfl
theorem sh_1 {q : Nat} (h : ShAt q) : shp (q + 1) = .ia 8 := sh_r (r := 0) h (by decide)
theorem sh_2 {q : Nat} (h : ShAt q) : shp (q + 2) = .ia 8 := sh_r (r := 1) h (by decide)
theorem sh_3 {q : Nat} (h : ShAt q) : shp (q + 3) = .ia 8 := sh_r (r := 2) h (by decide)
theorem sh_4 {q : Nat} (h : ShAt q) : shp (q + 4) = .ia 8 := sh_r (r := 3) h (by decide)
def PrAt (q : Nat) : Prop := ∀ r, r < 7 → shp (q + r) = shPrint q r
def MaAt (q : Nat) : Prop := ∀ r, r < 6 → shp (q + r) = shMark q r
def CaAt (q : Nat) : Prop := ∀ r, r < 5 → shp (q + r) = shCard q r
def TeAt (q : Nat) : Prop := ∀ r, r < 6 → shp (q + r) = shText q r
def TbAt (q most width : Nat) : Prop := shp q = .fs 8 [some (.int (nI most)), some (.int (nI width)), rfO (q + 1), none] ∧ shp (q + 1) = .ia (most * width)
theorem pr_0 {q : Nat} (h : PrAt q) : shp q = .fs 4 [rfO (q + 1), rfO (q + 2), none, none, none] := h 0 (by decide)
theorem pr_1 {q : Nat} (h : PrAt q) : shp (q + 1) = .ia 64 := h 1 (by decide)
theorem pr_sh {q : Nat} (h : PrAt q) : ShAt (q + 2) := by
  intro r hr
  rw [show q + 2 + r = q + (2 + r) by omega, h (2 + r) (by omega)]
  unfold shPrint
  rw [if_neg (by omega), if_neg (by omega), show 2 + r - 2 = r by omega]
theorem ma_0 {q : Nat} (h : MaAt q) : shp q = .fs 3 [rfO (q + 1), none, none] := h 0 (by decide)
theorem ma_sh {q : Nat} (h : MaAt q) : ShAt (q + 1) := by
  intro r hr
  rw [show q + 1 + r = q + (1 + r) by omega, h (1 + r) (by omega)]
  unfold shMark
  rw [if_neg (by omega), show 1 + r - 1 = r by omega]
theorem ca_0 {q : Nat} (h : CaAt q) : shp q = .fs 0 [none, none, none, rfO (q + 1), rfO (q + 2), rfO (q + 3), rfO (q + 4)] := h 0 (by decide)
theorem ca_1 {q : Nat} (h : CaAt q) : shp (q + 1) = .ia 10 := h 1 (by decide)
theorem ca_2 {q : Nat} (h : CaAt q) : shp (q + 2) = .ia 10 := h 2 (by decide)
theorem ca_3 {q : Nat} (h : CaAt q) : shp (q + 3) = .ia 10 := h 3 (by decide)
theorem ca_4 {q : Nat} (h : CaAt q) : shp (q + 4) = .ia 3 := h 4 (by decide)
theorem te_0 {q : Nat} (h : TeAt q) : shp q = .fs 5 [none, none, none, rfO (q + 1), rfO (q + 2), rfO (q + 3), rfO (q + 4), rfO (q + 5)] := h 0 (by decide)
theorem te_1 {q : Nat} (h : TeAt q) : shp (q + 1) = .ia 12 := h 1 (by decide)
theorem te_2 {q : Nat} (h : TeAt q) : shp (q + 2) = .ia 12 := h 2 (by decide)
theorem te_3 {q : Nat} (h : TeAt q) : shp (q + 3) = .ia 12 := h 3 (by decide)
theorem te_4 {q : Nat} (h : TeAt q) : shp (q + 4) = .ia 12 := h 4 (by decide)
theorem te_5 {q : Nat} (h : TeAt q) : shp (q + 5) = .ia 400 := h 5 (by decide)
theorem tb_0 {q a b : Nat} (h : TbAt q a b) : shp q = .fs 8 [some (.int (nI a)), some (.int (nI b)), rfO (q + 1), none] := h.1
theorem tb_1 {q a b : Nat} (h : TbAt q a b) : shp (q + 1) = .ia (a * b) := h.2
theorem st_0 {B : Nat} (hB : B = 6 ∨ B = 701) : shp B = .fs 7 [none, none, none, none, none, none, none, none, rfO (B + 1), rfO (B + 2), rfO (B + 3), rfO (B + 4), rfO (B + 5), rfO (B + 11), rfO (B + 13)] := by rcases hB with rfl | rfl <;> rfl
theorem st_1 {B : Nat} (hB : B = 6 ∨ B = 701) : shp (B + 1) = .ra 4 60 (B + 15) 7 := by rcases hB with rfl | rfl <;> rfl
theorem st_2 {B : Nat} (hB : B = 6 ∨ B = 701) : shp (B + 2) = .ra 5 20 (B + 435) 6 := by rcases hB with rfl | rfl <;> rfl
theorem st_3 {B : Nat} (hB : B = 6 ∨ B = 701) : shp (B + 3) = .ra 6 16 (B + 555) 5 := by rcases hB with rfl | rfl <;> rfl
theorem st_4 {B : Nat} (hB : B = 6 ∨ B = 701) : shp (B + 4) = .ra 7 10 (B + 635) 6 := by rcases hB with rfl | rfl <;> rfl
theorem prB {B p : Nat} (hB : B = 6 ∨ B = 701) (hp : p < 60) : PrAt (B + 15 + 7 * p) := fun _ hr => shp_print hB hp hr
theorem maB {B p : Nat} (hB : B = 6 ∨ B = 701) (hp : p < 20) : MaAt (B + 435 + 6 * p) := fun _ hr => shp_mark hB hp hr
theorem caB {B p : Nat} (hB : B = 6 ∨ B = 701) (hp : p < 16) : CaAt (B + 555 + 5 * p) := fun _ hr => shp_card hB hp hr
theorem teB {B p : Nat} (hB : B = 6 ∨ B = 701) (hp : p < 10) : TeAt (B + 635 + 6 * p) := fun _ hr => shp_text hB hp hr
theorem prA {p : Nat} (hp : p < 60) : PrAt (21 + 7 * p) := prB (B := 6) (Or.inl rfl) hp
theorem maA {p : Nat} (hp : p < 20) : MaAt (441 + 6 * p) := maB (B := 6) (Or.inl rfl) hp
theorem caA {p : Nat} (hp : p < 16) : CaAt (561 + 5 * p) := caB (B := 6) (Or.inl rfl) hp
theorem teA {p : Nat} (hp : p < 10) : TeAt (641 + 6 * p) := teB (B := 6) (Or.inl rfl) hp
theorem prD : PrAt 1407 := by
  intro r hr
  match r, hr with
  | 0, _ => rfl
  | 1, _ => rfl
  | 2, _ => rfl
  | 3, _ => rfl
  | 4, _ => rfl
  | 5, _ => rfl
  | 6, _ => rfl
theorem teN : TeAt 11 := by
  intro r hr
  match r, hr with
  | 0, _ => rfl
  | 1, _ => rfl
  | 2, _ => rfl
  | 3, _ => rfl
  | 4, _ => rfl
  | 5, _ => rfl
theorem teD : TeAt 1414 := by
  intro r hr
  match r, hr with
  | 0, _ => rfl
  | 1, _ => rfl
  | 2, _ => rfl
  | 3, _ => rfl
  | 4, _ => rfl
  | 5, _ => rfl
theorem tbS : TbAt 17 200 6 := ⟨rfl, rfl⟩
theorem tbH : TbAt 19 200 7 := ⟨rfl, rfl⟩
theorem tbSi : TbAt 712 200 6 := ⟨rfl, rfl⟩
theorem tbHi : TbAt 714 200 7 := ⟨rfl, rfl⟩
theorem nr_z {x : Int32} (h : x &&& 1 = x) : narrow .boolean (.int x) = .int x := by show Value.int (x &&& 1) = _; rw [h]
section CRULES
variable {g : aG} {d : Nat} {w : aW} {F A : Nat → Nat → Int32} {L : Nat → Int64}
variable {I : aInfo} {K : List aI} {Qr : Option Value → aW → Prop} {Qx : String → aW → Prop} {nb : Nat} {uc us i : Nat} {lo : List (Option Value)} {st : List Value}
theorem x_lenC {q n : Nat} (hK : K[i]? = some (aO 22 0 0)) (hn : w.1 = N0) (h : shp q = .ia n) (k : EX g mbOf (Ev g d) I K Qr Qx nb (cW w F A L) uc us (i + 1) lo (.int (nI n) :: st)) : EX g mbOf (Ev g d) I K Qr Qx nb (cW w F A L) uc us i lo (.ref q :: st) := x_len hK (cw_ia h hn) (by decide) k
theorem cw_tab {q most width rows : Nat} (h : TbAt q most width) (hr : F q 3 = nI rows) (hl : rows ≤ most) (hm : most * width < 2 ^ 31) (hm2 : most < 2 ^ 31) (hn : w.1 = N0) : TabAt (cW w F A L) q (q + 1) most width rows (A (q + 1)) := by
  refine ⟨?_, cw_ia h.2 hn, hl, hm, by omega, hm2⟩
  have e := cw_fs (w := w) (F := F) (A := A) (L := L) h.1 hn
  rw [show mkL (F q) 0 [some (.int (nI most)), some (.int (nI width)), rfO (q + 1), none] = [.int (nI most), .int (nI width), .ref (q + 1), .int (F q 3)] from rfl, hr] at e
  exact e
end CRULES
