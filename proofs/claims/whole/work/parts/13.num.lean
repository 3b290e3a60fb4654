/-! numbers: compares and counters as integers -/
theorem i_ge_f {x y : Int32} (h : cn2 .ge x y = false) : x.toInt < y.toInt := Int32.lt_iff_toInt_lt.mp (Int32.not_le.mp (of_decide_eq_false h))
theorem i_ge_t {x y : Int32} (h : cn2 .ge x y = true) : y.toInt ≤ x.toInt := Int32.le_iff_toInt_le.mp (of_decide_eq_true h)
theorem i_lt_f {x y : Int32} (h : cn2 .lt x y = false) : y.toInt ≤ x.toInt := Int32.le_iff_toInt_le.mp (Int32.not_lt.mp (of_decide_eq_false h))
theorem i_lt_t {x y : Int32} (h : cn2 .lt x y = true) : x.toInt < y.toInt := Int32.lt_iff_toInt_lt.mp (of_decide_eq_true h)
theorem i_gt_f {x y : Int32} (h : cn2 .gt x y = false) : x.toInt ≤ y.toInt := Int32.le_iff_toInt_le.mp (Int32.not_lt.mp (of_decide_eq_false h))
theorem i_gt_t {x y : Int32} (h : cn2 .gt x y = true) : y.toInt < x.toInt := Int32.lt_iff_toInt_lt.mp (of_decide_eq_true h)
theorem i_le_f {x y : Int32} (h : cn2 .le x y = false) : y.toInt < x.toInt := Int32.lt_iff_toInt_lt.mp (Int32.not_le.mp (of_decide_eq_false h))
theorem i_le_t {x y : Int32} (h : cn2 .le x y = true) : x.toInt ≤ y.toInt := Int32.le_iff_toInt_le.mp (of_decide_eq_true h)
theorem j_lt_f {x : Int32} (h : cn1 .lt x = false) : 0 ≤ x.toInt := Int32.le_iff_toInt_le.mp (Int32.not_lt.mp (of_decide_eq_false h))
theorem j_lt_t {x : Int32} (h : cn1 .lt x = true) : x.toInt < 0 := Int32.lt_iff_toInt_lt.mp (of_decide_eq_true h)
theorem j_ge_f {x : Int32} (h : cn1 .ge x = false) : x.toInt < 0 := Int32.lt_iff_toInt_lt.mp (Int32.not_le.mp (of_decide_eq_false h))
theorem j_ge_t {x : Int32} (h : cn1 .ge x = true) : 0 ≤ x.toInt := Int32.le_iff_toInt_le.mp (of_decide_eq_true h)
theorem j_gt_f {x : Int32} (h : cn1 .gt x = false) : x.toInt ≤ 0 := Int32.le_iff_toInt_le.mp (Int32.not_lt.mp (of_decide_eq_false h))
theorem j_gt_t {x : Int32} (h : cn1 .gt x = true) : 0 < x.toInt := Int32.lt_iff_toInt_lt.mp (of_decide_eq_true h)
theorem j_le_f {x : Int32} (h : cn1 .le x = false) : 0 < x.toInt := Int32.lt_iff_toInt_lt.mp (Int32.not_le.mp (of_decide_eq_false h))
theorem j_le_t {x : Int32} (h : cn1 .le x = true) : x.toInt ≤ 0 := Int32.le_iff_toInt_le.mp (of_decide_eq_true h)
theorem i_add {x : Int32} (k : Int) (h1 : -2147483648 ≤ x.toInt + k) (h2 : x.toInt + k ≤ 2147483647) (h3 : -2147483648 ≤ k) (h4 : k ≤ 2147483647) : (x + Int32.ofInt k).toInt = x.toInt + k := by
  rw [Int32.toInt_add, Int32.toInt_ofInt_of_le (by omega) (by omega)]
  exact Int.bmod_eq_of_le (by omega) (by omega)
/-! lcmp -/
theorem lc_c (x y : Int64) : (x.toInt < y.toInt ∧ lg_cmp x y = -1) ∨ (x.toInt = y.toInt ∧ lg_cmp x y = 0) ∨ (y.toInt < x.toInt ∧ lg_cmp x y = 1) := by
  unfold lg_cmp
  by_cases h1 : x > y
  · exact Or.inr (Or.inr ⟨Int64.lt_iff_toInt_lt.mp h1, if_pos h1⟩)
  · rw [if_neg h1]
    by_cases h2 : x = y
    · exact Or.inr (Or.inl ⟨by rw [h2], if_pos h2⟩)
    · rw [if_neg h2]
      have h3 : ¬ y.toInt < x.toInt := fun z => h1 (Int64.lt_iff_toInt_lt.mpr z)
      have h4 : ¬ x.toInt = y.toInt := fun z => h2 (Int64.toInt_inj.mp z)
      exact Or.inl ⟨by omega, rfl⟩
theorem lc_lt (x y : Int64) : cn1 .lt (lg_cmp x y) = decide (x.toInt < y.toInt) := by
  rcases lc_c x y with ⟨h, e⟩ | ⟨h, e⟩ | ⟨h, e⟩ <;> rw [e] <;> first | (rw [decide_eq_true (by omega)]; decide) | (rw [decide_eq_false (by omega)]; decide)
theorem lc_ge (x y : Int64) : cn1 .ge (lg_cmp x y) = decide (y.toInt ≤ x.toInt) := by
  rcases lc_c x y with ⟨h, e⟩ | ⟨h, e⟩ | ⟨h, e⟩ <;> rw [e] <;> first | (rw [decide_eq_true (by omega)]; decide) | (rw [decide_eq_false (by omega)]; decide)
theorem lc_gt (x y : Int64) : cn1 .gt (lg_cmp x y) = decide (y.toInt < x.toInt) := by
  rcases lc_c x y with ⟨h, e⟩ | ⟨h, e⟩ | ⟨h, e⟩ <;> rw [e] <;> first | (rw [decide_eq_true (by omega)]; decide) | (rw [decide_eq_false (by omega)]; decide)
theorem lc_le (x y : Int64) : cn1 .le (lg_cmp x y) = decide (x.toInt ≤ y.toInt) := by
  rcases lc_c x y with ⟨h, e⟩ | ⟨h, e⟩ | ⟨h, e⟩ <;> rw [e] <;> first | (rw [decide_eq_true (by omega)]; decide) | (rw [decide_eq_false (by omega)]; decide)
theorem lc_eq (x y : Int64) : cn1 .eq (lg_cmp x y) = decide (x = y) := by
  simp only [← Int64.toInt_inj]
  rcases lc_c x y with ⟨h, e⟩ | ⟨h, e⟩ | ⟨h, e⟩ <;> rw [e] <;> first | (rw [decide_eq_true (by omega)]; decide) | (rw [decide_eq_false (by omega)]; decide)
theorem lc_ne (x y : Int64) : cn1 .ne (lg_cmp x y) = decide (¬ x = y) := by
  simp only [← Int64.toInt_inj]
  rcases lc_c x y with ⟨h, e⟩ | ⟨h, e⟩ | ⟨h, e⟩ <;> rw [e] <;> first | (rw [decide_eq_true (by omega)]; decide) | (rw [decide_eq_false (by omega)]; decide)
/-- shifts by a constant, in naturals -/
theorem un_shl (x : Int64) (k : Int32) (j : Nat) (hk : (Int32.toInt64 k &&& 63).toBitVec.smod 64 = BitVec.ofNat 64 j) (hj : j < 64) : (x <<< (Int32.toInt64 k &&& 63)).toBitVec.toNat = x.toBitVec.toNat * 2 ^ j % 2 ^ 64 := by
  rw [Int64.toBitVec_shiftLeft, hk, BitVec.shiftLeft_eq', BitVec.toNat_shiftLeft, BitVec.toNat_ofNat, Nat.shiftLeft_eq, Nat.mod_eq_of_lt (show j < 2 ^ 64 by omega)]
theorem un_int {x : Int64} (h : x.toBitVec.toNat < 2 ^ 63) : x.toInt = (x.toBitVec.toNat : Int) := by
  show x.toBitVec.toInt = _
  rw [BitVec.toInt_eq_toNat_of_lt (by omega)]
theorem un_of {x : Int64} (h : 0 ≤ x.toInt) : x.toBitVec.toNat < 2 ^ 63 := by
  have h2 : 0 ≤ x.toBitVec.toInt := h
  have h3 := BitVec.toInt_eq_toNat_cond (x := x.toBitVec)
  have h4 := x.toBitVec.isLt
  split at h3 <;> omega
theorem un_ushr (x : Int64) (k : Int32) (j : Nat) (hk : (Int64.toUInt64 (Int32.toInt64 k) &&& Int64.toUInt64 63).toBitVec % 64 = BitVec.ofNat 64 j) (hj : j < 64) : ((Int64.toUInt64 x >>> (Int64.toUInt64 (Int32.toInt64 k) &&& Int64.toUInt64 63)).toInt64).toBitVec.toNat = x.toBitVec.toNat / 2 ^ j := by
  show (Int64.toUInt64 x >>> (Int64.toUInt64 (Int32.toInt64 k) &&& Int64.toUInt64 63)).toBitVec.toNat = _
  rw [UInt64.toBitVec_shiftRight, hk, BitVec.ushiftRight_eq', BitVec.toNat_ushiftRight, BitVec.toNat_ofNat, Nat.shiftRight_eq_div_pow, Nat.mod_eq_of_lt (show j < 2 ^ 64 by omega)]
  rfl
theorem ne0_t {y : Int64} (h : cn1 .ne (lg_cmp y 0) = true) : ¬ y = 0 := by rw [lc_ne] at h; exact of_decide_eq_true h
theorem ne0_f {y : Int64} (h : cn1 .eq (lg_cmp y 0) = false) : ¬ y = 0 := by rw [lc_eq] at h; exact of_decide_eq_false h
theorem un_ne0 {y : Int64} (h : ¬ y = 0) : y.toBitVec.toNat ≠ 0 := fun z => h (Int64.toBitVec_inj.mp (BitVec.eq_of_toNat_eq z))
theorem bits_step {n u : Nat} (h : 0 < n + 1 ∧ u < 2 ^ (n + 1 - 1)) (hu : u ≠ 0) : 0 < n ∧ u / 2 ^ 1 < 2 ^ (n - 1) := by
  obtain ⟨-, h⟩ := h
  rw [Nat.add_sub_cancel] at h
  cases n with
  | zero => rw [Nat.pow_zero] at h; omega
  | succ n =>
    refine ⟨by omega, ?_⟩
    rw [Nat.add_sub_cancel]
    rw [Nat.pow_succ] at h
    omega
theorem zf_ne {b : Bool} (h : cn1 .ne (b2i b) = false) : b = false := by rw [cn1_ne_b2i] at h; exact h
theorem zf_eq {b : Bool} (h : cn1 .eq (b2i b) = true) : b = false := by rw [cn1_eq_b2i] at h; cases b <;> simp_all
def NZ (n : Nat) (x : Int64) : Prop := 0 < x.toBitVec.toNat ∧ x.toBitVec.toNat < 2 ^ 53 ∧ 2 ^ 53 ≤ x.toBitVec.toNat * 2 ^ n
theorem NZ.no {x : Int64} (h : NZ 0 x) : False := by
  obtain ⟨-, h1, h2⟩ := h
  rw [Nat.pow_zero] at h2
  omega
theorem NZ.up {n : Nat} {x : Int64} (h : NZ (n + 1) x) (hlt : cn1 .ge (lg_cmp x 4503599627370496) = false) : NZ n (x <<< (Int32.toInt64 1 &&& 63)) := by
  obtain ⟨h1, h2, h3⟩ := h
  rw [lc_ge] at hlt
  have h4 := of_decide_eq_false hlt
  rw [show (4503599627370496 : Int64).toInt = 4503599627370496 by decide, un_int (by omega)] at h4
  have e := un_shl x 1 1 (by decide) (by decide)
  rw [Nat.mod_eq_of_lt (by omega)] at e
  unfold NZ
  rw [e]
  refine ⟨by omega, by omega, ?_⟩
  rw [Nat.pow_succ] at h3
  rw [Nat.pow_one, Nat.mul_assoc, Nat.mul_comm 2]
  exact h3
