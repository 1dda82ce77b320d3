/-! whole numbers of the machine read as integers -/
theorem a_add {a b : Int32} (h1 : -2147483648 ≤ a.toInt + b.toInt) (h2 : a.toInt + b.toInt < 2147483648) : (a + b).toInt = a.toInt + b.toInt := by
  rw [Int32.toInt_add]; exact Int.bmod_eq_of_le (by omega) (by omega)
theorem a_sub {a b : Int32} (h1 : -2147483648 ≤ a.toInt - b.toInt) (h2 : a.toInt - b.toInt < 2147483648) : (a - b).toInt = a.toInt - b.toInt := by
  rw [Int32.toInt_sub]; exact Int.bmod_eq_of_le (by omega) (by omega)
theorem a_mul {a b : Int32} (h1 : -2147483648 ≤ a.toInt * b.toInt) (h2 : a.toInt * b.toInt < 2147483648) : (a * b).toInt = a.toInt * b.toInt := by
  rw [Int32.toInt_mul]; exact Int.bmod_eq_of_le (by omega) (by omega)
theorem a_neg {a : Int32} (h1 : -2147483648 < a.toInt) : (-a).toInt = -a.toInt := by
  have := a.toInt_lt
  rw [Int32.toInt_neg]; exact Int.bmod_eq_of_le (by omega) (by omega)
theorem a_div {a b : Int32} (h1 : -2147483648 ≤ a.toInt.tdiv b.toInt) (h2 : a.toInt.tdiv b.toInt < 2147483648) : (a / b).toInt = a.toInt.tdiv b.toInt := by
  rw [Int32.toInt_div]; exact Int.bmod_eq_of_le (by omega) (by omega)
theorem b_add {a b : Int64} (h1 : -9223372036854775808 ≤ a.toInt + b.toInt) (h2 : a.toInt + b.toInt < 9223372036854775808) : (a + b).toInt = a.toInt + b.toInt := by
  rw [Int64.toInt_add]; exact Int.bmod_eq_of_le (by omega) (by omega)
theorem b_sub {a b : Int64} (h1 : -9223372036854775808 ≤ a.toInt - b.toInt) (h2 : a.toInt - b.toInt < 9223372036854775808) : (a - b).toInt = a.toInt - b.toInt := by
  rw [Int64.toInt_sub]; exact Int.bmod_eq_of_le (by omega) (by omega)
theorem b_mul {a b : Int64} (h1 : -9223372036854775808 ≤ a.toInt * b.toInt) (h2 : a.toInt * b.toInt < 9223372036854775808) : (a * b).toInt = a.toInt * b.toInt := by
  rw [Int64.toInt_mul]; exact Int.bmod_eq_of_le (by omega) (by omega)
theorem b_div {a b : Int64} (h1 : -9223372036854775808 ≤ a.toInt.tdiv b.toInt) (h2 : a.toInt.tdiv b.toInt < 9223372036854775808) : (a / b).toInt = a.toInt.tdiv b.toInt := by
  rw [Int64.toInt_div]; exact Int.bmod_eq_of_le (by omega) (by omega)
theorem b_of (x : Int32) : x.toInt64.toInt = x.toInt := Int32.toInt_toInt64 x
theorem z_mul {w r W R : Int} (h0 : 0 ≤ w) (h1 : w ≤ W) (g0 : 0 ≤ r) (g1 : r ≤ R) : 0 ≤ w * r ∧ w * r ≤ W * R :=
  ⟨Int.mul_nonneg h0 g0, Int.le_trans (Int.mul_le_mul_of_nonneg_left g1 h0) (Int.mul_le_mul_of_nonneg_right h1 (Int.le_trans g0 g1))⟩
/-- what a cell loses, by its warmth above the air's, its rate and what is left -/
def zl (w r l : Int) : Int := ((w * r).tdiv 1000 * 100000).tdiv l
theorem zl_b {w r l : Int} (hw0 : 0 ≤ w) (hw : w ≤ 14000) (hr0 : 0 ≤ r) (hr : r ≤ 100) (hl : 10000 ≤ l) :
    0 ≤ w * r ∧ w * r ≤ 1400000 ∧ 0 ≤ (w * r).tdiv 1000 ∧ (w * r).tdiv 1000 ≤ 1400 ∧ 0 ≤ zl w r l ∧ zl w r l ≤ w := by
  have p := z_mul hw0 hw hr0 hr
  have p1 : w * r ≤ w * 100 := Int.mul_le_mul_of_nonneg_left hr hw0
  unfold zl
  generalize hm : w * r = m at *
  rw [Int.tdiv_eq_ediv_of_nonneg p.1]
  have q0 : 0 ≤ m / 1000 := by omega
  have q1 : m / 1000 * 10 ≤ w := by omega
  generalize hq : m / 1000 = q at *
  rw [Int.tdiv_eq_ediv_of_nonneg (by omega : 0 ≤ q * 100000)]
  have z0 : 0 ≤ q * 100000 / l := Int.ediv_nonneg (by omega) (by omega)
  have z1 : q * 100000 / l * l ≤ q * 100000 := Int.ediv_mul_le _ (by omega)
  generalize hz : q * 100000 / l = z at *
  have z2 : z * 10000 ≤ z * l := Int.mul_le_mul_of_nonneg_left hl z0
  generalize z * l = t at *
  omega
theorem loss32 {c a r l : Int32} (h0 : 0 ≤ c.toInt + a.toInt) (h1 : c.toInt + a.toInt ≤ 14000) (r0 : 0 ≤ r.toInt) (r1 : r.toInt ≤ 100) (l0 : 10000 ≤ l.toInt) : ((c + a) * r / 1000 * 100000 / l).toInt = zl (c.toInt + a.toInt) r.toInt l.toInt := by
  have B := zl_b h0 h1 r0 r1 l0
  unfold zl at B ⊢
  have z1 : (1000 : Int32).toInt = 1000 := rfl
  have z2 : (100000 : Int32).toInt = 100000 := rfl
  have e1 : (c + a).toInt = c.toInt + a.toInt := a_add (by omega) (by omega)
  have e2 : ((c + a) * r).toInt = (c.toInt + a.toInt) * r.toInt := by rw [a_mul (by rw [e1]; omega) (by rw [e1]; omega), e1]
  have e3 : ((c + a) * r / 1000).toInt = ((c.toInt + a.toInt) * r.toInt).tdiv 1000 := by rw [a_div (by rw [e2, z1]; omega) (by rw [e2, z1]; omega), e2, z1]
  have e4 : ((c + a) * r / 1000 * 100000).toInt = ((c.toInt + a.toInt) * r.toInt).tdiv 1000 * 100000 := by rw [a_mul (by rw [e3, z2]; omega) (by rw [e3, z2]; omega), e3, z2]
  rw [a_div (by rw [e4]; omega) (by rw [e4]; omega), e4]
theorem loss64 {c a r l : Int64} (h0 : 0 ≤ c.toInt + a.toInt) (h1 : c.toInt + a.toInt ≤ 14000) (r0 : 0 ≤ r.toInt) (r1 : r.toInt ≤ 100) (l0 : 10000 ≤ l.toInt) : ((c + a) * r / 1000 * 100000 / l).toInt = zl (c.toInt + a.toInt) r.toInt l.toInt := by
  have B := zl_b h0 h1 r0 r1 l0
  unfold zl at B ⊢
  have z1 : (1000 : Int64).toInt = 1000 := rfl
  have z2 : (100000 : Int64).toInt = 100000 := rfl
  have e1 : (c + a).toInt = c.toInt + a.toInt := b_add (by omega) (by omega)
  have e2 : ((c + a) * r).toInt = (c.toInt + a.toInt) * r.toInt := by rw [b_mul (by rw [e1]; omega) (by rw [e1]; omega), e1]
  have e3 : ((c + a) * r / 1000).toInt = ((c.toInt + a.toInt) * r.toInt).tdiv 1000 := by rw [b_div (by rw [e2, z1]; omega) (by rw [e2, z1]; omega), e2, z1]
  have e4 : ((c + a) * r / 1000 * 100000).toInt = ((c.toInt + a.toInt) * r.toInt).tdiv 1000 * 100000 := by rw [b_mul (by rw [e3, z2]; omega) (by rw [e3, z2]; omega), e3, z2]
  rw [b_div (by rw [e4]; omega) (by rw [e4]; omega), e4]
theorem le32 (a b : Int32) : a ≤ b ↔ a.toInt ≤ b.toInt := Int32.le_iff_toInt_le
theorem lt32 (a b : Int32) : a < b ↔ a.toInt < b.toInt := Int32.lt_iff_toInt_lt
theorem le64 (a b : Int64) : a ≤ b ↔ a.toInt ≤ b.toInt := Int64.le_iff_toInt_le
theorem lt64 (a b : Int64) : a < b ↔ a.toInt < b.toInt := Int64.lt_iff_toInt_lt
theorem eq32 (a b : Int32) : a = b ↔ a.toInt = b.toInt := Int32.toInt_inj.symm
theorem eq64 (a b : Int64) : a = b ↔ a.toInt = b.toInt := Int64.toInt_inj.symm
/-- how far from four degrees -/
def zf (x : Int) : Int := if 400 ≤ x then x - 400 else 400 - x
theorem far32 {x : Int32} (h0 : -5000 ≤ x.toInt) (h1 : x.toInt ≤ 20000) : (X3_fromStill x).toInt = zf x.toInt := by
  have z : (400 : Int32).toInt = 400 := rfl
  have z0 : (0 : Int32).toInt = 0 := rfl
  have e : (x - 400).toInt = x.toInt - 400 := by rw [a_sub (by rw [z]; omega) (by rw [z]; omega), z]
  unfold X3_fromStill zf
  by_cases h : 0 ≤ x - 400
  · rw [if_pos h, e]
    rw [le32, e, z0] at h
    rw [if_pos (by omega)]
  · rw [if_neg h, a_neg (by rw [e]; omega), e]
    rw [le32, e, z0] at h
    rw [if_neg (by omega)]
    omega
theorem far64 {x : Int64} (h0 : -5000 ≤ x.toInt) (h1 : x.toInt ≤ 20000) : (X7_far x).toInt = zf x.toInt := by
  have z : (400 : Int64).toInt = 400 := rfl
  unfold X7_far zf
  by_cases h : x ≤ 400
  · rw [if_pos h, b_sub (by rw [z]; omega) (by rw [z]; omega), z]
    rw [le64, z] at h
    by_cases h2 : 400 ≤ x.toInt
    · rw [if_pos h2]; omega
    · rw [if_neg h2]
  · rw [if_neg h, b_sub (by rw [z]; omega) (by rw [z]; omega), z]
    rw [le64, z] at h
    rw [if_pos (by omega)]
theorem xor2 (s : Int32) : (0 ≤ s ^^^ 2) ↔ 0 ≤ s.toInt := by
  have z0 : (0 : Int32).toInt = 0 := rfl
  rw [le32, z0]
  have h : (s ^^^ 2).toBitVec.msb = s.toBitVec.msb := by
    have h2 : (2 : Int32).toBitVec.msb = false := by decide
    rw [Int32.toBitVec_xor, BitVec.msb_xor, h2, Bool.xor_false]
  rw [BitVec.msb_eq_toInt, BitVec.msb_eq_toInt] at h
  have h2 : ((s ^^^ 2).toInt < 0) ↔ (s.toInt < 0) := decide_eq_decide.mp h
  omega
theorem fl32 {s : Int32} (h0 : -20000 ≤ s.toInt) (h1 : s.toInt ≤ 20000) : (J9_floorDiv_7cf53 s 2).toInt = s.toInt / 2 := by
  have z2 : (2 : Int32).toInt = 2 := rfl
  have z1 : (1 : Int32).toInt = 1 := rfl
  have t := Int.tdiv_eq_ediv_of_nonneg (a := s.toInt) (b := 2)
  have t2 : s.toInt < 0 → s.toInt.tdiv 2 = -((-s.toInt) / 2) := fun h => by
    rw [← Int.tdiv_eq_ediv_of_nonneg (by omega : 0 ≤ -s.toInt), Int.neg_tdiv, Int.neg_neg]
  have hb : -20000 ≤ s.toInt.tdiv 2 ∧ s.toInt.tdiv 2 ≤ 20000 := by
    by_cases h : 0 ≤ s.toInt
    · rw [t h]; omega
    · rw [t2 (by omega)]; omega
  have e : (s / 2).toInt = s.toInt.tdiv 2 := by rw [a_div (by rw [z2]; omega) (by rw [z2]; omega), z2]
  unfold J9_floorDiv_7cf53
  by_cases h : 0 ≤ s ^^^ 2
  · rw [if_pos h, e]
    rw [xor2] at h
    exact t h
  · rw [if_neg h]
    rw [xor2] at h
    have e2 : (s / 2 * 2).toInt = s.toInt.tdiv 2 * 2 := by rw [a_mul (by rw [e, z2]; omega) (by rw [e, z2]; omega), e, z2]
    rw [t2 (by omega)] at e e2
    by_cases g : s / 2 * 2 = s
    · rw [if_pos g, e]
      rw [eq32, e2] at g
      omega
    · rw [if_neg g, a_sub (by rw [e, z1]; omega) (by rw [e, z1]; omega), e, z1]
      rw [eq32, e2] at g
      omega
theorem ha64 {s : Int64} (h0 : -20000 ≤ s.toInt) (h1 : s.toInt ≤ 20000) : (X7_half s).toInt = s.toInt / 2 := by
  have z2 : (2 : Int64).toInt = 2 := rfl
  have z1 : (1 : Int64).toInt = 1 := rfl
  have z0 : (0 : Int64).toInt = 0 := rfl
  have t := Int.tdiv_eq_ediv_of_nonneg (a := s.toInt) (b := 2)
  have t2 : s.toInt < 0 → s.toInt.tdiv 2 = -((-s.toInt) / 2) := fun h => by
    rw [← Int.tdiv_eq_ediv_of_nonneg (by omega : 0 ≤ -s.toInt), Int.neg_tdiv, Int.neg_neg]
  have hb : -20000 ≤ s.toInt.tdiv 2 ∧ s.toInt.tdiv 2 ≤ 20000 := by
    by_cases h : 0 ≤ s.toInt
    · rw [t h]; omega
    · rw [t2 (by omega)]; omega
  have e : (s / 2).toInt = s.toInt.tdiv 2 := by rw [b_div (by rw [z2]; omega) (by rw [z2]; omega), z2]
  unfold X7_half
  by_cases h : 0 ≤ s
  · rw [if_pos h, e]
    rw [le64, z0] at h
    exact t h
  · rw [if_neg h]
    rw [le64, z0] at h
    have e2 : (s / 2 * 2).toInt = s.toInt.tdiv 2 * 2 := by rw [b_mul (by rw [e, z2]; omega) (by rw [e, z2]; omega), e, z2]
    have e3 : (s - s / 2 * 2).toInt = s.toInt - s.toInt.tdiv 2 * 2 := by rw [b_sub (by rw [e2]; omega) (by rw [e2]; omega), e2]
    rw [t2 (by omega)] at e e3
    by_cases g : s - s / 2 * 2 = 0
    · rw [if_pos g, e]
      rw [eq64, e3, z0] at g
      omega
    · rw [if_neg g, b_sub (by rw [e, z1]; omega) (by rw [e, z1]; omega), e, z1]
      rw [eq64, e3, z0] at g
      omega
