/-! the mantissa of what is not zero -/
theorem un_and {x y : Int64} : (x &&& y).toBitVec.toNat = x.toBitVec.toNat &&& y.toBitVec.toNat := by
  rw [Int64.toBitVec_and, BitVec.toNat_and]
theorem un_or {x y : Int64} : (x ||| y).toBitVec.toNat = x.toBitVec.toNat ||| y.toBitVec.toNat := by
  rw [Int64.toBitVec_or, BitVec.toNat_or]
theorem un_mask (x : Int64) {m : Int64} (k : Nat) (hm : m.toBitVec.toNat = 2 ^ k - 1) : (x &&& m).toBitVec.toNat = x.toBitVec.toNat % 2 ^ k := by
  rw [un_and, hm, Nat.and_two_pow_sub_one_eq_mod]
theorem un_orp {x : Int64} {m : Int64} (k : Nat) (hm : m.toBitVec.toNat = 2 ^ k) (hx : x.toBitVec.toNat < 2 ^ k) : (x ||| m).toBitVec.toNat = x.toBitVec.toNat + 2 ^ k := by
  rw [un_or, hm, Nat.or_comm]
  have := Nat.two_pow_add_eq_or_of_lt hx 1
  rw [Nat.mul_one] at this
  rw [← this, Nat.add_comm]
theorem un_eq0 {x : Int64} : x = 0 ↔ x.toBitVec.toNat = 0 := by
  constructor
  · intro h; rw [h]; decide
  · intro h; exact Int64.toBitVec_inj.mp (BitVec.eq_of_toNat_eq h)
theorem isZero_un (a : Int64) : f_M_isZero a = decide (a.toBitVec.toNat % 2 ^ 63 = 0) := by
  unfold f_M_isZero
  rw [lc_ne]
  have h := un_mask a (m := 9223372036854775807) 63 (by decide)
  by_cases e : (a &&& 9223372036854775807) = 0
  · rw [decide_eq_false (fun z => z e)]
    rw [un_eq0.mp e] at h
    rw [decide_eq_true h.symm]
    rfl
  · rw [decide_eq_true e]
    have e2 : ¬ (a &&& 9223372036854775807).toBitVec.toNat = 0 := fun z => e (un_eq0.mpr z)
    rw [h] at e2
    rw [decide_eq_false e2]
    rfl
theorem mant_un (a : Int64) : (f_M_mantissa a).toBitVec.toNat = if a.toBitVec.toNat / 2 ^ 52 % 2 ^ 11 = 0 then a.toBitVec.toNat % 2 ^ 52 else a.toBitVec.toNat % 2 ^ 52 + 2 ^ 52 := by
  unfold f_M_mantissa
  have h1 := un_mask a (m := 4503599627370495) 52 (by decide)
  have h2 : ((Int64.toUInt64 a >>> (Int64.toUInt64 (Int32.toInt64 (52 : Int32)) &&& Int64.toUInt64 63)).toInt64 &&& (2047 : Int64)).toBitVec.toNat = a.toBitVec.toNat / 2 ^ 52 % 2 ^ 11 := by
    rw [un_mask _ (m := 2047) 11 (by decide), un_ushr a 52 52 (by decide) (by decide)]
  rw [lc_ne]
  by_cases e : ((Int64.toUInt64 a >>> (Int64.toUInt64 (Int32.toInt64 (52 : Int32)) &&& Int64.toUInt64 63)).toInt64 &&& (2047 : Int64)) = 0
  · rw [decide_eq_false (fun z => z e)]
    rw [un_eq0.mp e] at h2
    rw [if_pos h2.symm]
    exact h1
  · rw [decide_eq_true e]
    have e2 := fun z => e (un_eq0.mpr z)
    rw [h2] at e2
    rw [if_neg e2]
    show ((a &&& 4503599627370495) ||| 4503599627370496).toBitVec.toNat = _
    rw [un_orp 52 (by decide) (by rw [h1]; exact Nat.mod_lt _ (by decide)), h1]
theorem nz_mant {a : Int64} (h : f_M_isZero a = false) : NZ 53 (f_M_mantissa a) := by
  rw [isZero_un] at h
  have h := of_decide_eq_false h
  have e := mant_un a
  have h3 : a.toBitVec.toNat % 2 ^ 52 < 2 ^ 52 := Nat.mod_lt _ (by decide)
  have h4 : 0 < (f_M_mantissa a).toBitVec.toNat := by
    rw [e]
    split
    · omega
    · omega
  refine ⟨h4, ?_, ?_⟩
  · rw [e]; split <;> omega
  · exact Nat.le_mul_of_pos_left _ h4
