/-! ===== bits of the machine's numbers; how many there are ===== -/
def lb (x : Int) (i : Nat) : Bool := (Int64.ofInt x).toBitVec.getLsbD i
def ib (x : Int) (i : Nat) : Bool := (Int32.ofInt x).toBitVec.getLsbD i
set_option maxRecDepth 100000 in
theorem lb_and (x y : Int) (i : Nat) : lb (lAnd x y) i = (lb x i && lb y i) := by
  unfold lb lAnd
  rw [Int64.ofInt_toInt, Int64.toBitVec_and, BitVec.getLsbD_and]
set_option maxRecDepth 100000 in
theorem lb_or (x y : Int) (i : Nat) : lb (lOr x y) i = (lb x i || lb y i) := by
  unfold lb lOr
  rw [Int64.ofInt_toInt, Int64.toBitVec_or, BitVec.getLsbD_or]
set_option maxRecDepth 100000 in
theorem lb_xor (x y : Int) (i : Nat) : lb (lXor x y) i = (lb x i != lb y i) := by
  unfold lb lXor
  rw [Int64.ofInt_toInt, Int64.toBitVec_xor, BitVec.getLsbD_xor]
set_option maxRecDepth 100000 in
theorem lb_0 (i : Nat) : lb 0 i = false := by
  show (0#64 : BitVec 64).getLsbD i = false
  exact BitVec.getLsbD_zero
set_option maxRecDepth 100000 in
theorem lb_m1 {i : Nat} (h : i < 64) : lb (-1) i = true := by
  have : ∀ i, i < 64 → lb (-1) i = true := by decide +kernel
  exact this i h
set_option maxRecDepth 100000 in
theorem lb_1 (i : Nat) : lb 1 i = decide (i = 0) := by
  show (1#64 : BitVec 64).getLsbD i = decide (i = 0)
  rw [BitVec.getLsbD_one]
  by_cases h : i = 0
  · subst h; rfl
  · simp [h]
set_option maxRecDepth 100000 in
theorem ib_and (x y : Int) (i : Nat) : ib (iAnd x y) i = (ib x i && ib y i) := by
  unfold ib iAnd
  rw [Int32.ofInt_toInt, Int32.toBitVec_and, BitVec.getLsbD_and]
set_option maxRecDepth 100000 in
theorem ib_or (x y : Int) (i : Nat) : ib (iOr x y) i = (ib x i || ib y i) := by
  unfold ib iOr
  rw [Int32.ofInt_toInt, Int32.toBitVec_or, BitVec.getLsbD_or]
set_option maxRecDepth 100000 in
theorem ib_xor (x y : Int) (i : Nat) : ib (iXor x y) i = (ib x i != ib y i) := by
  unfold ib iXor
  rw [Int32.ofInt_toInt, Int32.toBitVec_xor, BitVec.getLsbD_xor]
set_option maxRecDepth 100000 in
theorem ib_0 (i : Nat) : ib 0 i = false := by
  show (0#32 : BitVec 32).getLsbD i = false
  exact BitVec.getLsbD_zero
set_option maxRecDepth 100000 in
theorem ib_m1 {i : Nat} (h : i < 32) : ib (-1) i = true := by
  have : ∀ i, i < 32 → ib (-1) i = true := by decide +kernel
  exact this i h
set_option maxRecDepth 100000 in
theorem ib_1 (i : Nat) : ib 1 i = decide (i = 0) := by
  show (1#32 : BitVec 32).getLsbD i = decide (i = 0)
  rw [BitVec.getLsbD_one]
  by_cases h : i = 0
  · subst h; rfl
  · simp [h]
/-! shifts -/
set_option maxRecDepth 100000 in
theorem lsh_am : ∀ s : Nat, s < 64 → (((Int32.ofInt (s : Int)).toInt64 &&& 63).toBitVec.smod 64#64).toNat = s := by decide +kernel
set_option maxRecDepth 100000 in
theorem ish_am : ∀ s : Nat, s < 32 → ((Int32.ofInt (s : Int) &&& 31).toBitVec.smod 32#32).toNat = s := by decide +kernel
set_option maxRecDepth 100000 in
theorem lb_shl (x : Int) {s : Nat} (h : s < 64) (i : Nat) : lb (lShl x (s : Int)) i = (decide (i < 64) && !decide (i < s) && lb x (i - s)) := by
  unfold lb lShl
  rw [Int64.ofInt_toInt, Int64.toBitVec_shiftLeft, BitVec.shiftLeft_eq']
  have e : (((Int32.ofInt (s : Int)).toInt64 &&& 63).toBitVec.smod (BitVec.ofNat 64 64)).toNat = s := lsh_am s h
  rw [show (((Int32.ofInt (s : Int)).toInt64 &&& 63).toBitVec.smod 64).toNat = s from e, BitVec.getLsbD_shiftLeft]
set_option maxRecDepth 100000 in
theorem lb_shr (x : Int) {s : Nat} (h : s < 64) (i : Nat) (h2 : s + i < 64) : lb (lShr x (s : Int)) i = lb x (s + i) := by
  unfold lb lShr
  rw [Int64.ofInt_toInt, Int64.toBitVec_shiftRight, BitVec.sshiftRight_eq']
  rw [show (((Int32.ofInt (s : Int)).toInt64 &&& 63).toBitVec.smod 64).toNat = s from lsh_am s h, BitVec.getLsbD_sshiftRight, if_pos h2]
  simp only [show ¬ 64 ≤ i by omega, decide_false, Bool.not_false, Bool.true_and]
set_option maxRecDepth 100000 in
theorem lb_shr2 (x : Int) {s : Nat} (h : s < 64) (i : Nat) (hx : lb x 63 = false) : lb (lShr x (s : Int)) i = (decide (s + i < 64) && lb x (s + i)) := by
  by_cases h2 : s + i < 64
  · rw [lb_shr x h i h2, decide_eq_true h2, Bool.true_and]
  · rw [decide_eq_false h2, Bool.false_and]
    unfold lb lShr
    rw [Int64.ofInt_toInt, Int64.toBitVec_shiftRight, BitVec.sshiftRight_eq']
    rw [show (((Int32.ofInt (s : Int)).toInt64 &&& 63).toBitVec.smod 64).toNat = s from lsh_am s h, BitVec.getLsbD_sshiftRight, if_neg h2]
    have : (Int64.ofInt x).toBitVec.msb = false := by rw [BitVec.msb_eq_getLsbD_last]; exact hx
    rw [this, Bool.and_false]
set_option maxRecDepth 100000 in
theorem ib_shl (x : Int) {s : Nat} (h : s < 32) (i : Nat) : ib (iShl x (s : Int)) i = (decide (i < 32) && !decide (i < s) && ib x (i - s)) := by
  unfold ib iShl
  rw [Int32.ofInt_toInt, Int32.toBitVec_shiftLeft, BitVec.shiftLeft_eq']
  rw [show ((Int32.ofInt (s : Int) &&& 31).toBitVec.smod 32).toNat = s from ish_am s h, BitVec.getLsbD_shiftLeft]
set_option maxRecDepth 100000 in
theorem ib_shr2 (x : Int) {s : Nat} (h : s < 32) (i : Nat) (hx : ib x 31 = false) : ib (iShr x (s : Int)) i = (decide (s + i < 32) && ib x (s + i)) := by
  unfold ib iShr
  rw [Int32.ofInt_toInt, Int32.toBitVec_shiftRight, BitVec.sshiftRight_eq']
  rw [show ((Int32.ofInt (s : Int) &&& 31).toBitVec.smod 32).toNat = s from ish_am s h, BitVec.getLsbD_sshiftRight]
  have hm : (Int32.ofInt x).toBitVec.msb = false := by rw [BitVec.msb_eq_getLsbD_last]; exact hx
  by_cases h2 : s + i < 32
  · rw [if_pos h2, decide_eq_true h2, Bool.true_and]
    simp only [show ¬ 32 ≤ i by omega, decide_false, Bool.not_false, Bool.true_and]
  · rw [if_neg h2, decide_eq_false h2, Bool.false_and, hm, Bool.and_false]
set_option maxRecDepth 100000 in
theorem ib_ext {x y : Int} (h : ∀ i, i < 32 → ib x i = ib y i) : w32 x = w32 y := by
  have : Int32.ofInt x = Int32.ofInt y := Int32.toBitVec.inj (BitVec.eq_of_getLsbD_eq h)
  unfold w32
  rw [this]
set_option maxRecDepth 100000 in
theorem ib_w {x y : Int} (h : w32 x = w32 y) (i : Nat) : ib x i = ib y i := by
  unfold ib
  rw [show Int32.ofInt x = Int32.ofInt y from Int32.toInt.inj h]
/-! ===== how many bits: bytes by bytes ===== -/
def bc (n : Nat) : Nat → Nat
  | 0 => 0
  | k + 1 => bc n k + (if n.testBit k then 1 else 0)
set_option maxRecDepth 100000 in
theorem bc_cons (h : Nat) {l : Nat} (hl : l < 2 ^ 8) : ∀ m, bc (2 ^ 8 * h + l) (8 + m) = bc l 8 + bc h m
  | 0 => by
    have e : ∀ j, j < 8 → (2 ^ 8 * h + l).testBit j = l.testBit j := fun j hj => by rw [Nat.testBit_two_pow_mul_add h hl, if_pos hj]
    show bc (2 ^ 8 * h + l) 8 = bc l 8 + 0
    simp only [bc, e 0 (by decide), e 1 (by decide), e 2 (by decide), e 3 (by decide), e 4 (by decide), e 5 (by decide), e 6 (by decide), e 7 (by decide), Nat.add_zero]
  | m + 1 => by
    have ih := bc_cons h hl m
    show bc (2 ^ 8 * h + l) (8 + m) + (if (2 ^ 8 * h + l).testBit (8 + m) then 1 else 0) = bc l 8 + (bc h m + (if h.testBit m then 1 else 0))
    rw [ih, Nat.testBit_two_pow_mul_add h hl, if_neg (show ¬ 8 + m < 8 by omega), Nat.add_sub_cancel_left, Nat.add_assoc]
def rep : Nat → Nat → Nat
  | 0, _ => 0
  | k + 1, m => 2 ^ 8 * rep k m + m
set_option maxRecDepth 100000 in
theorem and_cons (h k : Nat) {l m : Nat} (hl : l < 2 ^ 8) (hm : m < 2 ^ 8) : (2 ^ 8 * h + l) &&& (2 ^ 8 * k + m) = 2 ^ 8 * (h &&& k) + (l &&& m) := by
  refine Nat.eq_of_testBit_eq fun j => ?_
  rw [Nat.testBit_and, Nat.testBit_two_pow_mul_add h hl, Nat.testBit_two_pow_mul_add k hm, Nat.testBit_two_pow_mul_add _ (Nat.and_lt_two_pow l hm)]
  split
  · rw [Nat.testBit_and]
  · rw [Nat.testBit_and]
set_option maxRecDepth 100000 in
theorem shr_cons (h k : Nat) {l m s : Nat} (hs : s ≤ 8) (hl : l < 2 ^ 8) (hm : m < 2 ^ (8 - s)) : ((2 ^ 8 * h + l) >>> s) &&& (2 ^ 8 * k + m) = 2 ^ 8 * ((h >>> s) &&& k) + ((l >>> s) &&& m) := by
  have hm8 : m < 2 ^ 8 := Nat.lt_of_lt_of_le hm (Nat.pow_le_pow_right (by decide) (by omega))
  refine Nat.eq_of_testBit_eq fun j => ?_
  rw [Nat.testBit_and, Nat.testBit_shiftRight, Nat.testBit_two_pow_mul_add h hl, Nat.testBit_two_pow_mul_add k hm8, Nat.testBit_two_pow_mul_add _ (Nat.and_lt_two_pow _ hm8)]
  by_cases hj : j < 8
  · rw [if_pos hj, if_pos hj, Nat.testBit_and, Nat.testBit_shiftRight]
    by_cases hj2 : s + j < 8
    · rw [if_pos hj2]
    · have : m.testBit j = false := Nat.testBit_lt_two_pow (Nat.lt_of_lt_of_le hm (Nat.pow_le_pow_right (by decide) (by omega)))
      rw [this, Bool.and_false, Bool.and_false]
  · rw [if_neg hj, if_neg hj, if_neg (show ¬ s + j < 8 by omega), Nat.testBit_and, Nat.testBit_shiftRight, show s + j - 8 = s + (j - 8) by omega]
def g1 (l : Nat) : Nat := l - ((l >>> 1) &&& 85)
def g2 (l : Nat) : Nat := (g1 l &&& 51) + ((g1 l >>> 2) &&& 51)
def g3 (l : Nat) : Nat := (g2 l + g2 l / 16) % 16
set_option maxRecDepth 100000 in
theorem g_all : ∀ l, l < 2 ^ 8 → ((l >>> 1) &&& 85) ≤ l ∧ g1 l < 2 ^ 8 ∧ g2 l ≤ 68 ∧ g2 l % 16 ≤ 4 ∧ g3 l = bc l 8 ∧ g3 l ≤ 8 := by decide +kernel
def s1 (k n : Nat) : Nat := n - ((n >>> 1) &&& rep k 85)
def s2 (k n : Nat) : Nat := (s1 k n &&& rep k 51) + ((s1 k n >>> 2) &&& rep k 51)
def s3 (k n : Nat) : Nat := (s2 k n + s2 k n / 16) &&& rep k 15
set_option maxRecDepth 100000 in
theorem s1_cons (k h : Nat) {l : Nat} (hl : l < 2 ^ 8) : s1 (k + 1) (2 ^ 8 * h + l) = 2 ^ 8 * s1 k h + g1 l := by
  have a := g_all l hl
  have b : (h >>> 1) &&& rep k 85 ≤ h := Nat.le_trans Nat.and_le_left (Nat.shiftRight_le h 1)
  show 2 ^ 8 * h + l - (((2 ^ 8 * h + l) >>> 1) &&& (2 ^ 8 * rep k 85 + 85)) = 2 ^ 8 * (h - ((h >>> 1) &&& rep k 85)) + (l - ((l >>> 1) &&& 85))
  rw [shr_cons h (rep k 85) (s := 1) (m := 85) (by decide) hl (by decide)]
  have a1 := a.1
  omega
set_option maxRecDepth 100000 in
theorem s2_cons (k h : Nat) {l : Nat} (hl : l < 2 ^ 8) : s2 (k + 1) (2 ^ 8 * h + l) = 2 ^ 8 * s2 k h + g2 l := by
  have a := g_all l hl
  show (s1 (k + 1) (2 ^ 8 * h + l) &&& (2 ^ 8 * rep k 51 + 51)) + ((s1 (k + 1) (2 ^ 8 * h + l) >>> 2) &&& (2 ^ 8 * rep k 51 + 51)) = 2 ^ 8 * ((s1 k h &&& rep k 51) + ((s1 k h >>> 2) &&& rep k 51)) + ((g1 l &&& 51) + ((g1 l >>> 2) &&& 51))
  rw [s1_cons k h hl, and_cons _ _ a.2.1 (by decide), shr_cons (s1 k h) (rep k 51) (s := 2) (m := 51) (by decide) a.2.1 (by decide)]
  omega
set_option maxRecDepth 100000 in
theorem s2_lo (k h : Nat) : s2 k h % 16 ≤ 4 := by
  match k with
  | 0 => show ((s1 0 h &&& 0) + ((s1 0 h >>> 2) &&& 0)) % 16 ≤ 4; rw [Nat.and_zero, Nat.and_zero]; decide
  | k + 1 =>
    have hh : h = 2 ^ 8 * (h / 256) + h % 256 := (Nat.div_add_mod h 256).symm
    have hl : h % 256 < 2 ^ 8 := Nat.mod_lt _ (by decide)
    rw [hh, s2_cons k _ hl]
    have := (g_all _ hl).2.2.2.1
    omega
set_option maxRecDepth 100000 in
theorem s3_cons (k h : Nat) {l : Nat} (hl : l < 2 ^ 8) : s3 (k + 1) (2 ^ 8 * h + l) = 2 ^ 8 * s3 k h + g3 l := by
  have a := g_all l hl
  have b := s2_lo k h
  have a3 := a.2.2.1
  show (s2 (k + 1) (2 ^ 8 * h + l) + s2 (k + 1) (2 ^ 8 * h + l) / 16) &&& (2 ^ 8 * rep k 15 + 15) = 2 ^ 8 * ((s2 k h + s2 k h / 16) &&& rep k 15) + (g2 l + g2 l / 16) % 16
  rw [s2_cons k h hl, show 2 ^ 8 * s2 k h + g2 l + (2 ^ 8 * s2 k h + g2 l) / 16 = 2 ^ 8 * (s2 k h + s2 k h / 16) + (g2 l + g2 l / 16 + 16 * (s2 k h % 16)) by omega]
  rw [and_cons _ _ (by omega) (by decide), show (15 : Nat) = 2 ^ 4 - 1 by rfl, Nat.and_two_pow_sub_one_eq_mod]
  omega
set_option maxRecDepth 100000 in
theorem s3_0 (n : Nat) : s3 0 n = 0 := Nat.and_zero _
def pV : Nat → Nat → Nat
  | 0, _ => 0
  | k + 1, n => g3 (n % 256) + 256 * pV k (n / 256)
def pW : Nat → Nat → Nat
  | 0, _ => 0
  | k + 1, n => g3 (n % 256) + pW k (n / 256)
set_option maxRecDepth 100000 in
theorem s3_V : ∀ k n : Nat, s3 k n = pV k n
  | 0, n => s3_0 n
  | k + 1, n => by
    have hl : n % 256 < 2 ^ 8 := Nat.mod_lt _ (by decide)
    have e := s3_cons k (n / 256) hl
    rw [show 2 ^ 8 * (n / 256) + n % 256 = n from Nat.div_add_mod n 256, s3_V k (n / 256)] at e
    rw [e]
    show 2 ^ 8 * pV k (n / 256) + g3 (n % 256) = g3 (n % 256) + 256 * pV k (n / 256)
    omega
set_option maxRecDepth 100000 in
theorem bc_W : ∀ k n : Nat, bc n (8 * k) = pW k n
  | 0, n => rfl
  | k + 1, n => by
    have hl : n % 256 < 2 ^ 8 := Nat.mod_lt _ (by decide)
    have e := bc_cons (n / 256) hl (8 * k)
    rw [show 2 ^ 8 * (n / 256) + n % 256 = n from Nat.div_add_mod n 256, bc_W k (n / 256), ← (g_all _ hl).2.2.2.2.1] at e
    rw [show 8 * (k + 1) = 8 + 8 * k by omega, e]
    rfl
set_option maxRecDepth 100000 in
theorem g3_8 (n : Nat) : g3 (n % 256) ≤ 8 := (g_all _ (Nat.mod_lt _ (by decide))).2.2.2.2.2
/-- the rest of the count: what is added up of the bytes -/
def i5 (a : Nat) : Nat := a + a / 256
def i6 (a : Nat) : Nat := i5 a + i5 a / 65536
def l6 (a : Nat) : Nat := i6 a + i6 a / 4294967296
set_option maxRecDepth 100000 in
theorem cnt_4 (n : Nat) : i6 (s3 4 n) % 64 = bc n 32 ∧ s3 4 n < 200000000 ∧ bc n 32 ≤ 32 := by
  rw [s3_V, show 32 = 8 * 4 from rfl, bc_W]
  simp only [pV, pW]
  have := g3_8 n
  have := g3_8 (n / 256)
  have := g3_8 (n / 256 / 256)
  have := g3_8 (n / 256 / 256 / 256)
  generalize g3 (n % 256) = p0 at *
  generalize g3 (n / 256 % 256) = p1 at *
  generalize g3 (n / 256 / 256 % 256) = p2 at *
  generalize g3 (n / 256 / 256 / 256 % 256) = p3 at *
  have e5 : i5 (p0 + 256 * (p1 + 256 * (p2 + 256 * (p3 + 256 * 0)))) = (p0 + p1) + 256 * ((p1 + p2) + 256 * ((p2 + p3) + 256 * p3)) := by
    unfold i5
    omega
  have e6 : i6 (p0 + 256 * (p1 + 256 * (p2 + 256 * (p3 + 256 * 0)))) = (p0 + p1 + p2 + p3) + 256 * ((p1 + p2 + p3) + 256 * ((p2 + p3) + 256 * p3)) := by
    unfold i6
    rw [e5]
    omega
  rw [e6]
  omega
set_option maxRecDepth 100000 in
theorem cnt_8 (n : Nat) : l6 (s3 8 n) % 128 = bc n 64 ∧ s3 8 n < 700000000000000000 ∧ bc n 64 ≤ 64 := by
  rw [s3_V, show 64 = 8 * 8 from rfl, bc_W]
  simp only [pV, pW, l6]
  have := g3_8 n
  have := g3_8 (n / 256)
  have := g3_8 (n / 256 / 256)
  have := g3_8 (n / 256 / 256 / 256)
  have := g3_8 (n / 256 / 256 / 256 / 256)
  have := g3_8 (n / 256 / 256 / 256 / 256 / 256)
  have := g3_8 (n / 256 / 256 / 256 / 256 / 256 / 256)
  have := g3_8 (n / 256 / 256 / 256 / 256 / 256 / 256 / 256)
  generalize g3 (n % 256) = p0 at *
  generalize g3 (n / 256 % 256) = p1 at *
  generalize g3 (n / 256 / 256 % 256) = p2 at *
  generalize g3 (n / 256 / 256 / 256 % 256) = p3 at *
  generalize g3 (n / 256 / 256 / 256 / 256 % 256) = p4 at *
  generalize g3 (n / 256 / 256 / 256 / 256 / 256 % 256) = p5 at *
  generalize g3 (n / 256 / 256 / 256 / 256 / 256 / 256 % 256) = p6 at *
  generalize g3 (n / 256 / 256 / 256 / 256 / 256 / 256 / 256 % 256) = p7 at *
  have e5 : i5 (p0 + 256 * (p1 + 256 * (p2 + 256 * (p3 + 256 * (p4 + 256 * (p5 + 256 * (p6 + 256 * (p7 + 256 * 0)))))))) = (p0 + p1) + 256 * ((p1 + p2) + 256 * ((p2 + p3) + 256 * ((p3 + p4) + 256 * ((p4 + p5) + 256 * ((p5 + p6) + 256 * ((p6 + p7) + 256 * p7)))))) := by
    unfold i5
    omega
  have e6 : i6 (p0 + 256 * (p1 + 256 * (p2 + 256 * (p3 + 256 * (p4 + 256 * (p5 + 256 * (p6 + 256 * (p7 + 256 * 0)))))))) = (p0 + p1 + p2 + p3) + 256 * ((p1 + p2 + p3 + p4) + 256 * ((p2 + p3 + p4 + p5) + 256 * ((p3 + p4 + p5 + p6) + 256 * ((p4 + p5 + p6 + p7) + 256 * ((p5 + p6 + p7) + 256 * ((p6 + p7) + 256 * p7)))))) := by
    unfold i6
    rw [e5]
    omega
  rw [e6]
  have e7 : ((p0 + p1 + p2 + p3) + 256 * ((p1 + p2 + p3 + p4) + 256 * ((p2 + p3 + p4 + p5) + 256 * ((p3 + p4 + p5 + p6) + 256 * ((p4 + p5 + p6 + p7) + 256 * ((p5 + p6 + p7) + 256 * ((p6 + p7) + 256 * p7))))))) / 4294967296 = (p4 + p5 + p6 + p7) + 256 * ((p5 + p6 + p7) + 256 * ((p6 + p7) + 256 * p7)) := by
    omega
  rw [e7]
  refine ⟨?_, by omega, by omega⟩
  generalize (p1 + p2 + p3 + p4) + 256 * ((p2 + p3 + p4 + p5) + 256 * ((p3 + p4 + p5 + p6) + 256 * ((p4 + p5 + p6 + p7) + 256 * ((p5 + p6 + p7) + 256 * ((p6 + p7) + 256 * p7))))) = k1
  generalize (p5 + p6 + p7) + 256 * ((p6 + p7) + 256 * p7) = k2
  omega
/-! the machine's own steps -/
def u64 (x : Int) : Nat := (Int64.ofInt x).toBitVec.toNat
def u32 (x : Int) : Nat := (Int32.ofInt x).toBitVec.toNat
set_option maxRecDepth 100000 in
theorem u64_and (x y : Int) : u64 (lAnd x y) = u64 x &&& u64 y := by
  unfold u64 lAnd
  rw [Int64.ofInt_toInt, Int64.toBitVec_and, BitVec.toNat_and]
set_option maxRecDepth 100000 in
theorem u32_and (x y : Int) : u32 (iAnd x y) = u32 x &&& u32 y := by
  unfold u32 iAnd
  rw [Int32.ofInt_toInt, Int32.toBitVec_and, BitVec.toNat_and]
set_option maxRecDepth 100000 in
theorem u64_add (x y : Int) : u64 (x + y) = (u64 x + u64 y) % 2 ^ 64 := by
  unfold u64
  rw [Int64.ofInt_add, Int64.toBitVec_add, BitVec.toNat_add]
set_option maxRecDepth 100000 in
theorem u32_add (x y : Int) : u32 (x + y) = (u32 x + u32 y) % 2 ^ 32 := by
  unfold u32
  rw [Int32.ofInt_add, Int32.toBitVec_add, BitVec.toNat_add]
set_option maxRecDepth 100000 in
theorem u64_sub (x y : Int) (h : u64 y ≤ u64 x) : u64 (x - y) = u64 x - u64 y := by
  unfold u64 at *
  rw [Int64.ofInt_sub, Int64.toBitVec_sub, BitVec.toNat_sub]
  have := (Int64.ofInt x).toBitVec.isLt
  have := (Int64.ofInt y).toBitVec.isLt
  omega
set_option maxRecDepth 100000 in
theorem u32_sub (x y : Int) (h : u32 y ≤ u32 x) : u32 (x - y) = u32 x - u32 y := by
  unfold u32 at *
  rw [Int32.ofInt_sub, Int32.toBitVec_sub, BitVec.toNat_sub]
  have := (Int32.ofInt x).toBitVec.isLt
  have := (Int32.ofInt y).toBitVec.isLt
  omega
set_option maxRecDepth 100000 in
theorem u64_lt (x : Int) : u64 x < 2 ^ 64 := (Int64.ofInt x).toBitVec.isLt
set_option maxRecDepth 100000 in
theorem u32_lt (x : Int) : u32 x < 2 ^ 32 := (Int32.ofInt x).toBitVec.isLt
set_option maxRecDepth 100000 in
theorem lus_am : ∀ s : Nat, s < 64 → ((Int32.ofInt (s : Int)).toInt64.toUInt64 &&& Int64.toUInt64 63).toNat % 64 = s := by decide +kernel
set_option maxRecDepth 100000 in
theorem ius_am : ∀ s : Nat, s < 32 → ((Int32.ofInt (s : Int)).toUInt32 &&& Int32.toUInt32 31).toNat % 32 = s := by decide +kernel
set_option maxRecDepth 100000 in
theorem u64_ushr (x : Int) {s : Nat} (h : s < 64) : u64 (lUshr x (s : Int)) = u64 x >>> s := by
  unfold u64 lUshr
  rw [Int64.ofInt_toInt]
  show ((Int64.ofInt x).toUInt64 >>> ((Int32.ofInt (s : Int)).toInt64.toUInt64 &&& Int64.toUInt64 63)).toNat = _
  rw [UInt64.toNat_shiftRight, lus_am s h]
  rfl
set_option maxRecDepth 100000 in
theorem u32_ushr (x : Int) {s : Nat} (h : s < 32) : u32 (iUshr x (s : Int)) = u32 x >>> s := by
  unfold u32 iUshr
  rw [Int32.ofInt_toInt]
  show ((Int32.ofInt x).toUInt32 >>> ((Int32.ofInt (s : Int)).toUInt32 &&& Int32.toUInt32 31)).toNat = _
  rw [UInt32.toNat_shiftRight, ius_am s h]
  rfl
set_option maxRecDepth 100000 in
theorem u32_l2i (x : Int) : u32 (l2iF x) = u64 x % 2 ^ 32 := by
  unfold u32 u64 l2iF
  rw [Int32.ofInt_toInt]
  show ((Int64.ofInt x).toBitVec.signExtend 32).toNat = _
  rw [BitVec.signExtend_eq_setWidth_of_le _ (by decide), BitVec.toNat_setWidth]
set_option maxRecDepth 100000 in
theorem iAnd_mask (y : Int) (z : Int) {k : Nat} (hk : k ≤ 30) (hz : u32 z = 2 ^ k - 1) : iAnd y z = ((u32 y % 2 ^ k : Nat) : Int) := by
  have e : (Int32.ofInt y &&& Int32.ofInt z).toBitVec.toNat = u32 y % 2 ^ k := by
    rw [Int32.toBitVec_and, BitVec.toNat_and, ← Nat.and_two_pow_sub_one_eq_mod, ← hz]
    rfl
  have hl : u32 y % 2 ^ k < 2 ^ k := Nat.mod_lt _ (Nat.two_pow_pos k)
  have hp : 2 ^ k ≤ 2 ^ 30 := Nat.pow_le_pow_right (by decide) hk
  show (Int32.ofInt y &&& Int32.ofInt z).toBitVec.toInt = _
  rw [BitVec.toInt_eq_toNat_of_lt (by rw [e]; omega), e]
set_option maxRecDepth 100000 in
theorem lcnt (x : Int) (c1 c2 c3 : Int) (h1 : u64 c1 = rep 8 85) (h2 : u64 c2 = rep 8 51) (h3 : u64 c3 = rep 8 15) (x1 x2 x3 x4 x5 x6 : Int) (e1 : x1 = x - lAnd (lUshr x 1) c1) (e2 : x2 = lAnd x1 c2 + lAnd (lUshr x1 2) c2) (e3 : x3 = lAnd (x2 + lUshr x2 4) c3) (e4 : x4 = x3 + lUshr x3 8) (e5 : x5 = x4 + lUshr x4 16) (e6 : x6 = x5 + lUshr x5 32) : iAnd (l2iF x6) 127 = ((bc (u64 x) 64 : Nat) : Int) := by
  have a1 : u64 x1 = s1 8 (u64 x) := by
    have q : u64 (lAnd (lUshr x 1) c1) = (u64 x >>> 1) &&& rep 8 85 := by rw [u64_and, h1, show lUshr x 1 = lUshr x ((1 : Nat) : Int) from rfl, u64_ushr x (by decide)]
    rw [e1, u64_sub _ _ (by rw [q]; exact Nat.le_trans Nat.and_le_left (Nat.shiftRight_le _ _)), q]
    rfl
  have b2 : s2 8 (u64 x) < 2 ^ 64 := by
    unfold s2
    have p1 : s1 8 (u64 x) &&& rep 8 51 ≤ 3689348814741910323 := Nat.and_le_right
    have p2 : (s1 8 (u64 x) >>> 2) &&& rep 8 51 ≤ 3689348814741910323 := Nat.and_le_right
    omega
  have a2 : u64 x2 = s2 8 (u64 x) := by
    rw [e2, u64_add, u64_and, u64_and, h2, show lUshr x1 2 = lUshr x1 ((2 : Nat) : Int) from rfl, u64_ushr x1 (by decide), a1]
    exact Nat.mod_eq_of_lt b2
  have b3 : s2 8 (u64 x) + s2 8 (u64 x) / 16 < 2 ^ 64 := by
    unfold s2
    have p1 : s1 8 (u64 x) &&& rep 8 51 ≤ 3689348814741910323 := Nat.and_le_right
    have p2 : (s1 8 (u64 x) >>> 2) &&& rep 8 51 ≤ 3689348814741910323 := Nat.and_le_right
    omega
  have a3 : u64 x3 = s3 8 (u64 x) := by
    rw [e3, u64_and, u64_add, h3, show lUshr x2 4 = lUshr x2 ((4 : Nat) : Int) from rfl, u64_ushr x2 (by decide), a2, Nat.shiftRight_eq_div_pow, show 2 ^ 4 = 16 from rfl, Nat.mod_eq_of_lt b3]
    rfl
  obtain ⟨f1, f2, f3⟩ := cnt_8 (u64 x)
  have a4 : u64 x4 = i5 (s3 8 (u64 x)) := by
    rw [e4, u64_add, show lUshr x3 8 = lUshr x3 ((8 : Nat) : Int) from rfl, u64_ushr x3 (by decide), a3, Nat.shiftRight_eq_div_pow, show 2 ^ 8 = 256 from rfl]
    exact Nat.mod_eq_of_lt (by omega)
  have b5 : i5 (s3 8 (u64 x)) < 1000000000000000000 := by unfold i5; omega
  have a5 : u64 x5 = i6 (s3 8 (u64 x)) := by
    rw [e5, u64_add, show lUshr x4 16 = lUshr x4 ((16 : Nat) : Int) from rfl, u64_ushr x4 (by decide), a4, Nat.shiftRight_eq_div_pow, show 2 ^ 16 = 65536 from rfl]
    exact Nat.mod_eq_of_lt (by omega)
  have b6 : i6 (s3 8 (u64 x)) < 2000000000000000000 := by unfold i6; omega
  have a6 : u64 x6 = l6 (s3 8 (u64 x)) := by
    rw [e6, u64_add, show lUshr x5 32 = lUshr x5 ((32 : Nat) : Int) from rfl, u64_ushr x5 (by decide), a5, Nat.shiftRight_eq_div_pow, show 2 ^ 32 = 4294967296 from rfl]
    exact Nat.mod_eq_of_lt (by omega)
  rw [iAnd_mask (l2iF x6) 127 (k := 7) (by decide) rfl, u32_l2i, a6]
  have : l6 (s3 8 (u64 x)) % 2 ^ 32 % 2 ^ 7 = bc (u64 x) 64 := by rw [← f1]; omega
  rw [this]
set_option maxRecDepth 100000 in
theorem icnt (x : Int) (c1 c2 c3 : Int) (h1 : u32 c1 = rep 4 85) (h2 : u32 c2 = rep 4 51) (h3 : u32 c3 = rep 4 15) (x1 x2 x3 x4 x5 : Int) (e1 : x1 = x - iAnd (iUshr x 1) c1) (e2 : x2 = iAnd x1 c2 + iAnd (iUshr x1 2) c2) (e3 : x3 = iAnd (x2 + iUshr x2 4) c3) (e4 : x4 = x3 + iUshr x3 8) (e5 : x5 = x4 + iUshr x4 16) : iAnd x5 63 = ((bc (u32 x) 32 : Nat) : Int) := by
  have a1 : u32 x1 = s1 4 (u32 x) := by
    have q : u32 (iAnd (iUshr x 1) c1) = (u32 x >>> 1) &&& rep 4 85 := by rw [u32_and, h1, show iUshr x 1 = iUshr x ((1 : Nat) : Int) from rfl, u32_ushr x (by decide)]
    rw [e1, u32_sub _ _ (by rw [q]; exact Nat.le_trans Nat.and_le_left (Nat.shiftRight_le _ _)), q]
    rfl
  have b2 : s2 4 (u32 x) < 2 ^ 32 := by
    unfold s2
    have p1 : s1 4 (u32 x) &&& rep 4 51 ≤ 858993459 := Nat.and_le_right
    have p2 : (s1 4 (u32 x) >>> 2) &&& rep 4 51 ≤ 858993459 := Nat.and_le_right
    omega
  have a2 : u32 x2 = s2 4 (u32 x) := by
    rw [e2, u32_add, u32_and, u32_and, h2, show iUshr x1 2 = iUshr x1 ((2 : Nat) : Int) from rfl, u32_ushr x1 (by decide), a1]
    exact Nat.mod_eq_of_lt b2
  have b3 : s2 4 (u32 x) + s2 4 (u32 x) / 16 < 2 ^ 32 := by
    unfold s2
    have p1 : s1 4 (u32 x) &&& rep 4 51 ≤ 858993459 := Nat.and_le_right
    have p2 : (s1 4 (u32 x) >>> 2) &&& rep 4 51 ≤ 858993459 := Nat.and_le_right
    omega
  have a3 : u32 x3 = s3 4 (u32 x) := by
    rw [e3, u32_and, u32_add, h3, show iUshr x2 4 = iUshr x2 ((4 : Nat) : Int) from rfl, u32_ushr x2 (by decide), a2, Nat.shiftRight_eq_div_pow, show 2 ^ 4 = 16 from rfl, Nat.mod_eq_of_lt b3]
    rfl
  obtain ⟨f1, f2, f3⟩ := cnt_4 (u32 x)
  have a4 : u32 x4 = i5 (s3 4 (u32 x)) := by
    rw [e4, u32_add, show iUshr x3 8 = iUshr x3 ((8 : Nat) : Int) from rfl, u32_ushr x3 (by decide), a3, Nat.shiftRight_eq_div_pow, show 2 ^ 8 = 256 from rfl]
    exact Nat.mod_eq_of_lt (by omega)
  have b5 : i5 (s3 4 (u32 x)) < 300000000 := by unfold i5; omega
  have a5 : u32 x5 = i6 (s3 4 (u32 x)) := by
    rw [e5, u32_add, show iUshr x4 16 = iUshr x4 ((16 : Nat) : Int) from rfl, u32_ushr x4 (by decide), a4, Nat.shiftRight_eq_div_pow, show 2 ^ 16 = 65536 from rfl]
    exact Nat.mod_eq_of_lt (by omega)
  rw [iAnd_mask x5 63 (k := 6) (by decide) rfl, a5, show i6 (s3 4 (u32 x)) % 2 ^ 6 = i6 (s3 4 (u32 x)) % 64 from rfl, f1]
section JCount
variable {d : Nat} {m : Mem} {Q : Nat → Option AV → Mem → Prop}
set_option maxRecDepth 100000 in
theorem e_bitL {x : Int} (h : Q 0 (some (vI ((bc (u64 x) 64 : Nat) : Int))) m) : Ex d Lng_bitCount 0 [some (vL x), none] [] m Q := by
  refine Ex_step (tk_Lng_bitCount rfl) ?_
  refine Ex_step (tk_Lng_bitCount rfl) ?_
  refine Ex_step (tk_Lng_bitCount rfl) ?_
  refine Ex_step (tk_Lng_bitCount rfl) ?_
  refine Ex_step (tk_Lng_bitCount rfl) ?_
  refine Ex_step (tk_Lng_bitCount rfl) ?_
  refine Ex_step (tk_Lng_bitCount rfl) ?_
  refine Ex_step (tk_Lng_bitCount rfl) ?_
  refine Ex_step (tk_Lng_bitCount rfl) ?_
  refine Ex_step (tk_Lng_bitCount rfl) ?_
  refine Ex_step (tk_Lng_bitCount rfl) ?_
  refine Ex_step (tk_Lng_bitCount rfl) ?_
  refine Ex_step (tk_Lng_bitCount rfl) ?_
  refine Ex_step (tk_Lng_bitCount rfl) ?_
  refine Ex_step (tk_Lng_bitCount rfl) ?_
  refine Ex_step (tk_Lng_bitCount rfl) ?_
  refine Ex_step (tk_Lng_bitCount rfl) ?_
  refine Ex_step (tk_Lng_bitCount rfl) ?_
  refine Ex_step (tk_Lng_bitCount rfl) ?_
  refine Ex_step (tk_Lng_bitCount rfl) ?_
  refine Ex_step (tk_Lng_bitCount rfl) ?_
  refine Ex_step (tk_Lng_bitCount rfl) ?_
  refine Ex_step (tk_Lng_bitCount rfl) ?_
  refine Ex_step (tk_Lng_bitCount rfl) ?_
  refine Ex_step (tk_Lng_bitCount rfl) ?_
  refine Ex_step (tk_Lng_bitCount rfl) ?_
  refine Ex_step (tk_Lng_bitCount rfl) ?_
  refine Ex_step (tk_Lng_bitCount rfl) ?_
  refine Ex_step (tk_Lng_bitCount rfl) ?_
  refine Ex_step (tk_Lng_bitCount rfl) ?_
  refine Ex_step (tk_Lng_bitCount rfl) ?_
  refine Ex_step (tk_Lng_bitCount rfl) ?_
  refine Ex_step (tk_Lng_bitCount rfl) ?_
  refine Ex_step (tk_Lng_bitCount rfl) ?_
  refine Ex_step (tk_Lng_bitCount rfl) ?_
  refine Ex_step (tk_Lng_bitCount rfl) ?_
  refine Ex_step (tk_Lng_bitCount rfl) ?_
  refine Ex_step (tk_Lng_bitCount rfl) ?_
  refine Ex_step (tk_Lng_bitCount rfl) ?_
  refine Ex_step (tk_Lng_bitCount rfl) ?_
  refine Ex_step (tk_Lng_bitCount rfl) ?_
  refine Ex_step (tk_Lng_bitCount rfl) ?_
  refine Ex_step (tk_Lng_bitCount rfl) ?_
  refine Ex_step (tk_Lng_bitCount rfl) ?_
  refine Ex_step (tk_Lng_bitCount rfl) ?_
  refine Ex_step (tk_Lng_bitCount rfl) ?_
  refine Ex_step (tk_Lng_bitCount rfl) ?_
  refine Ex_step (tk_Lng_bitCount rfl) ?_
  refine Ex_step (tk_Lng_bitCount rfl) ⟨rfl, ?_⟩
  rw [← lcnt x 6148914691236517205 3689348814741910323 1085102592571150095 (by decide +kernel) (by decide +kernel) (by decide +kernel) _ _ _ _ _ _ rfl rfl rfl rfl rfl rfl] at h
  exact h
set_option maxRecDepth 100000 in
theorem e_bitI {x : Int} (h : Q 0 (some (vI ((bc (u32 x) 32 : Nat) : Int))) m) : Ex d Int_bitCount 0 [some (vI x)] [] m Q := by
  refine Ex_step (tk_Int_bitCount rfl) ?_
  refine Ex_step (tk_Int_bitCount rfl) ?_
  refine Ex_step (tk_Int_bitCount rfl) ?_
  refine Ex_step (tk_Int_bitCount rfl) ?_
  refine Ex_step (tk_Int_bitCount rfl) ?_
  refine Ex_step (tk_Int_bitCount rfl) ?_
  refine Ex_step (tk_Int_bitCount rfl) ?_
  refine Ex_step (tk_Int_bitCount rfl) ?_
  refine Ex_step (tk_Int_bitCount rfl) ?_
  refine Ex_step (tk_Int_bitCount rfl) ?_
  refine Ex_step (tk_Int_bitCount rfl) ?_
  refine Ex_step (tk_Int_bitCount rfl) ?_
  refine Ex_step (tk_Int_bitCount rfl) ?_
  refine Ex_step (tk_Int_bitCount rfl) ?_
  refine Ex_step (tk_Int_bitCount rfl) ?_
  refine Ex_step (tk_Int_bitCount rfl) ?_
  refine Ex_step (tk_Int_bitCount rfl) ?_
  refine Ex_step (tk_Int_bitCount rfl) ?_
  refine Ex_step (tk_Int_bitCount rfl) ?_
  refine Ex_step (tk_Int_bitCount rfl) ?_
  refine Ex_step (tk_Int_bitCount rfl) ?_
  refine Ex_step (tk_Int_bitCount rfl) ?_
  refine Ex_step (tk_Int_bitCount rfl) ?_
  refine Ex_step (tk_Int_bitCount rfl) ?_
  refine Ex_step (tk_Int_bitCount rfl) ?_
  refine Ex_step (tk_Int_bitCount rfl) ?_
  refine Ex_step (tk_Int_bitCount rfl) ?_
  refine Ex_step (tk_Int_bitCount rfl) ?_
  refine Ex_step (tk_Int_bitCount rfl) ?_
  refine Ex_step (tk_Int_bitCount rfl) ?_
  refine Ex_step (tk_Int_bitCount rfl) ?_
  refine Ex_step (tk_Int_bitCount rfl) ?_
  refine Ex_step (tk_Int_bitCount rfl) ?_
  refine Ex_step (tk_Int_bitCount rfl) ?_
  refine Ex_step (tk_Int_bitCount rfl) ?_
  refine Ex_step (tk_Int_bitCount rfl) ?_
  refine Ex_step (tk_Int_bitCount rfl) ?_
  refine Ex_step (tk_Int_bitCount rfl) ?_
  refine Ex_step (tk_Int_bitCount rfl) ?_
  refine Ex_step (tk_Int_bitCount rfl) ?_
  refine Ex_step (tk_Int_bitCount rfl) ?_
  refine Ex_step (tk_Int_bitCount rfl) ⟨rfl, ?_⟩
  rw [← icnt x 1431655765 858993459 252645135 (by decide +kernel) (by decide +kernel) (by decide +kernel) _ _ _ _ _ rfl rfl rfl rfl rfl] at h
  exact h
end JCount
set_option maxRecDepth 100000 in
theorem tb_l (x : Int) (i : Nat) : (u64 x).testBit i = lb x i := rfl
set_option maxRecDepth 100000 in
theorem tb_i (x : Int) (i : Nat) : (u32 x).testBit i = ib x i := rfl
