/-! numbers of 32 and 64 bits as whole numbers -/
theorem i64_add {a b : Int64} (h1 : -9223372036854775808 ≤ a.toInt + b.toInt) (h2 : a.toInt + b.toInt < 9223372036854775808) : (a + b).toInt = a.toInt + b.toInt := by
  rw [Int64.toInt_add]
  exact Int.bmod_eq_of_le (by omega) (by omega)
theorem i64_sub {a b : Int64} (h1 : -9223372036854775808 ≤ a.toInt - b.toInt) (h2 : a.toInt - b.toInt < 9223372036854775808) : (a - b).toInt = a.toInt - b.toInt := by
  rw [Int64.toInt_sub]
  exact Int.bmod_eq_of_le (by omega) (by omega)
theorem i64_mul {a b : Int64} (h1 : -9223372036854775808 ≤ a.toInt * b.toInt) (h2 : a.toInt * b.toInt < 9223372036854775808) : (a * b).toInt = a.toInt * b.toInt := by
  rw [Int64.toInt_mul]
  exact Int.bmod_eq_of_le (by omega) (by omega)
theorem i64_neg {a : Int64} (h1 : -9223372036854775808 < a.toInt) : (-a).toInt = -a.toInt := by
  have := a.toInt_lt
  rw [Int64.toInt_neg]
  exact Int.bmod_eq_of_le (by omega) (by omega)
theorem i32_add {a b : Int32} (h1 : -2147483648 ≤ a.toInt + b.toInt) (h2 : a.toInt + b.toInt < 2147483648) : (a + b).toInt = a.toInt + b.toInt := by
  rw [Int32.toInt_add]
  exact Int.bmod_eq_of_le (by omega) (by omega)
theorem i32_sub {a b : Int32} (h1 : -2147483648 ≤ a.toInt - b.toInt) (h2 : a.toInt - b.toInt < 2147483648) : (a - b).toInt = a.toInt - b.toInt := by
  rw [Int32.toInt_sub]
  exact Int.bmod_eq_of_le (by omega) (by omega)
theorem i64_of32 (a : Int32) : a.toInt64.toInt = a.toInt := Int32.toInt_toInt64 a
theorem i32_of64 {a : Int64} (h1 : -2147483648 ≤ a.toInt) (h2 : a.toInt < 2147483648) : a.toInt32.toInt = a.toInt := by
  rw [Int64.toInt_toInt32]
  exact Int.bmod_eq_of_le (by omega) (by omega)
theorem i64_div {a b : Int64} (ha : 0 ≤ a.toInt) (hb : 0 < b.toInt) : (a / b).toInt = a.toInt / b.toInt := by
  rw [Int64.toInt_div]
  have h1 : a.toInt.tdiv b.toInt = a.toInt / b.toInt := Int.tdiv_eq_ediv_of_nonneg ha
  rw [h1]
  have h2 : a.toInt / b.toInt ≤ a.toInt := Int.ediv_le_self _ ha
  have h3 : 0 ≤ a.toInt / b.toInt := Int.ediv_nonneg ha (by omega)
  have := a.toInt_lt
  exact Int.bmod_eq_of_le (by omega) (by omega)
theorem i64_or {a b : Int64} (q : Int) (ha : a.toInt = q * 4294967296) (hb : 0 ≤ b.toInt) (hb2 : b.toInt < 4294967296) : (a ||| b).toInt = a.toInt + b.toInt := by
  have e : a ||| b = a + b := by
    apply Int64.toBitVec_inj.mp
    rw [Int64.toBitVec_or, Int64.toBitVec_add]
    apply BitVec.eq_of_toNat_eq
    have hbn : b.toBitVec.toNat < 4294967296 := by
      have h1 : b.toBitVec.toInt = b.toInt := rfl
      have h2 := BitVec.toInt_eq_toNat_cond b.toBitVec
      rw [h1] at h2
      split at h2 <;> omega
    have han : ∃ z, a.toBitVec.toNat = 2 ^ 32 * z := by
      have h1 : a.toBitVec.toInt = a.toInt := rfl
      have h2 := BitVec.toInt_eq_toNat_cond a.toBitVec
      rw [h1, ha] at h2
      refine ⟨a.toBitVec.toNat / 2 ^ 32, ?_⟩
      split at h2 <;> omega
    obtain ⟨z, hz⟩ := han
    have hlt := a.toBitVec.isLt
    rw [BitVec.toNat_or, BitVec.toNat_add, hz, ← Nat.two_pow_add_eq_or_of_lt hbn]
    rw [Nat.mod_eq_of_lt (by omega)]
  have hlo := a.le_toInt
  have hhi := a.toInt_lt
  rw [e]
  exact i64_add (by omega) (by omega)
theorem i64_shl32 {a : Int64} (h1 : -2147483648 ≤ a.toInt) (h2 : a.toInt < 2147483648) : (a <<< ((32 : Int32).toInt64 &&& 63)).toInt = a.toInt * 4294967296 := by
  have e : a <<< ((32 : Int32).toInt64 &&& 63) = a * 4294967296 := by
    apply Int64.toBitVec_inj.mp
    rw [Int64.toBitVec_shiftLeft, Int64.toBitVec_mul]
    have : (((32 : Int32).toInt64 &&& 63).toBitVec.smod 64) = 32#64 := by decide
    rw [this]
    rw [BitVec.shiftLeft_eq', BitVec.shiftLeft_eq_mul_twoPow]
    rfl
  rw [e]
  exact i64_mul (by show _ ≤ a.toInt * 4294967296; omega) (by show a.toInt * 4294967296 < _; omega)
theorem i64_shr32 (a : Int64) : (a >>> ((32 : Int32).toInt64 &&& 63)).toInt = a.toInt / 4294967296 := by
  have : (a >>> ((32 : Int32).toInt64 &&& 63)).toBitVec = a.toBitVec.sshiftRight 32 := by
    rw [Int64.toBitVec_shiftRight]
    have : (((32 : Int32).toInt64 &&& 63).toBitVec.smod 64) = 32#64 := by decide
    rw [this]
    rfl
  show (a >>> ((32 : Int32).toInt64 &&& 63)).toBitVec.toInt = a.toBitVec.toInt / 4294967296
  rw [this, BitVec.toInt_sshiftRight, Int.shiftRight_eq_div_pow]
  rfl
theorem i64_mask (a : Int64) : (a &&& 4294967295).toInt = a.toInt % 4294967296 := by
  have h1 : (a &&& 4294967295).toBitVec.toNat = a.toBitVec.toNat % 4294967296 := by
    rw [Int64.toBitVec_and, BitVec.toNat_and]
    exact Nat.and_two_pow_sub_one_eq_mod _ 32
  have h2 : (a &&& 4294967295).toBitVec.toInt = (a &&& 4294967295).toInt := rfl
  have h3 := BitVec.toInt_eq_toNat_cond (a &&& 4294967295).toBitVec
  have h4 : a.toBitVec.toInt = a.toInt := rfl
  have h5 := BitVec.toInt_eq_toNat_cond a.toBitVec
  rw [← h2, h3, h1, ← h4, h5]
  split <;> split <;> omega
