/-! REALS: the sum -/
theorem stk_or (x : Nat) : x ||| 1 = x / 2 * 2 + 1 := by
  have h := Nat.div_add_mod (x ||| 1) 2
  have h1 : (x ||| 1) / 2 = x / 2 := by
    have : (x ||| 1) / 2 ^ 1 = x / 2 ^ 1 ||| 1 / 2 ^ 1 := Nat.or_div_two_pow
    rw [Nat.pow_one] at this
    rw [this]
    simp
  have h2 : (x ||| 1) % 2 = 1 := by
    have : (x ||| 1) % 2 ^ 1 = x % 2 ^ 1 ||| 1 % 2 ^ 1 := Nat.or_mod_two_pow
    rw [Nat.pow_one] at this
    rw [this]
    have h3 : x % 2 < 2 := Nat.mod_lt _ (by decide)
    rcases (show x % 2 = 0 ∨ x % 2 = 1 by omega) with h | h <;> rw [h] <;> decide
  omega
theorem stk_add {A S d : Nat} (hA : A % 2 = 0) : A + stk S d = stk (A * 2 ^ d + S) d := by
  unfold stk
  have h1 : (A * 2 ^ d + S) % 2 ^ d = S % 2 ^ d := by rw [Nat.add_comm, Nat.add_mul_mod_self_right]
  have h2 : (A * 2 ^ d + S) / 2 ^ d = A + S / 2 ^ d := by rw [Nat.add_comm, Nat.add_mul_div_right _ _ (pw_pos d), Nat.add_comm]
  rw [h1, h2]
  split
  · rfl
  · omega
theorem stk_sub {A S d : Nat} (hA : A % 2 = 0) (h : S ≤ A * 2 ^ d) : A - stk S d = stk (A * 2 ^ d - S) d ∧ stk S d ≤ A := by
  have hK := pw_pos d
  generalize hq : S / 2 ^ d = q
  generalize hr : S % 2 ^ d = r
  have hS : S = q * 2 ^ d + r := by rw [← hq, ← hr]; exact (Nat.div_add_mod' S (2 ^ d)).symm
  have hrK : r < 2 ^ d := by rw [← hr]; exact Nat.mod_lt _ hK
  by_cases hz : r = 0
  · have hqA : q ≤ A := by
      rw [hS, hz, Nat.add_zero] at h
      exact Nat.le_of_mul_le_mul_right h hK
    have e : A * 2 ^ d - S = (A - q) * 2 ^ d := by rw [hS, hz, Nat.add_zero, Nat.sub_mul]
    unfold stk
    rw [hr, hq, e, if_pos hz, Nat.mul_mod_left, if_pos rfl, Nat.mul_div_cancel _ hK]
    exact ⟨rfl, hqA⟩
  · have hqA : q + 1 ≤ A := by
      refine Nat.lt_of_mul_lt_mul_right (a := 2 ^ d) ?_
      omega
    obtain ⟨B, hB⟩ : ∃ B, A = B + (q + 1) := ⟨A - (q + 1), by omega⟩
    have e : A * 2 ^ d - S = B * 2 ^ d + (2 ^ d - r) := by
      rw [hS, hB, Nat.add_mul, Nat.add_mul, Nat.one_mul]
      omega
    have e1 : (B * 2 ^ d + (2 ^ d - r)) % 2 ^ d = 2 ^ d - r := by
      rw [Nat.add_comm, Nat.add_mul_mod_self_right, Nat.mod_eq_of_lt (by omega)]
    have e2 : (B * 2 ^ d + (2 ^ d - r)) / 2 ^ d = B := by
      rw [Nat.add_comm, Nat.add_mul_div_right _ _ hK, Nat.div_eq_of_lt (by omega), Nat.zero_add]
    unfold stk
    rw [hr, hq, e, e1, e2, if_neg hz, if_neg (by omega)]
    omega
/-- stuck or exact, it rounds alike -/
theorem pk_stk {P k : Nat} {E : Int} (h0 : P ≠ 0) (h : P % 2 ^ k ≠ 0 → 2 ^ 55 ≤ P / 2 ^ k) : pk 52 1023 (stk P k) (E + k) false = pk 52 1023 P E false := by
  by_cases hz : P % 2 ^ k = 0
  · have e : P = P / 2 ^ k * 2 ^ k := (Nat.div_mul_cancel (Nat.dvd_of_mod_eq_zero hz)).symm
    have hq : P / 2 ^ k ≠ 0 := fun z => h0 (by rw [e, z, Nat.zero_mul])
    unfold stk
    rw [if_pos hz, ← pk_scale hq k E, ← e]
  · have h1 := h hz
    have hq : P / 2 ^ k ≠ 0 := fun z => by rw [z] at h1; exact absurd h1 (by decide)
    refine (pk_stick hq ?_).symm
    have hn : 56 ≤ nb (P / 2 ^ k) := by
      have h2 := (Nat.le_log2 hq).mpr h1
      unfold nb
      omega
    unfold pby
    split <;> omega
theorem pk_flg {P k : Nat} {E : Int} (h0 : P ≠ 0) (h : P % 2 ^ k ≠ 0 → 2 ^ 53 ≤ P / 2 ^ k) : pk 52 1023 (P / 2 ^ k) (E + k) (decide (P % 2 ^ k ≠ 0)) = pk 52 1023 P E false := by
  by_cases hz : P % 2 ^ k = 0
  · have e : P = P / 2 ^ k * 2 ^ k := (Nat.div_mul_cancel (Nat.dvd_of_mod_eq_zero hz)).symm
    have hq : P / 2 ^ k ≠ 0 := fun z => h0 (by rw [e, z, Nat.zero_mul])
    rw [show decide (P % 2 ^ k ≠ 0) = false from decide_eq_false (fun z => z hz), ← pk_scale hq k E, ← e]
  · have h1 := h hz
    have hq : P / 2 ^ k ≠ 0 := fun z => by rw [z] at h1; exact absurd h1 (by decide)
    refine (pk_flag hq ?_).symm
    have hn : 54 ≤ nb (P / 2 ^ k) := by
      have h2 := (Nat.le_log2 hq).mpr h1
      unfold nb
      omega
    unfold pby
    split <;> omega
/-- rounding of the class, of the reference, in 52 places -/
theorem r52 {M : Nat} {e : Int32} (hM : M ≠ 0) (hM2 : M < 2 ^ 63) (he : -20000 ≤ e.toInt ∧ e.toInt ≤ 20000) : f_Re_rounded (lN M) e (52 : Int32) (1023 : Int32) = lN (pk 52 1023 M e.toInt false) := rounded_pk (p := 52) (B := 1023) rfl rfl (by decide) (by decide) (by decide) (by decide) (by decide) hM hM2 he
theorem s52 {M : Nat} {x mo bl : Int32} (hM : M ≠ 0) (hM2 : M < 2 ^ 63) (hx : -20000 ≤ x.toInt ∧ x.toInt ≤ 20000) : f_M_signed bl (lN M) x mo = lN (pk 52 1023 M x.toInt (decide (¬ mo.toInt = 0))) ||| (if bl.toInt = 0 then 0 else -9223372036854775808) := by
  unfold f_M_signed
  rw [packed_pk (p := 52) (B := 1023) rfl rfl (Or.inl ⟨rfl, rfl⟩) hM hM2 hx, c1_eq, cd_if]
  split <;> rfl
/-- shifted right, what was lost in the lowest bit -/
theorem mvr {S d : Nat} {y : Int32} (hS : S < 2 ^ 62) (hy : y.toInt = (d : Int)) : f_Re_movedRight (lN S) y = lN (stk S d) := by
  have hS64 : S < 2 ^ 64 := Nat.lt_trans hS (by decide)
  unfold f_Re_movedRight
  rw [c2_le, hy, show ((62 : Int32).toInt) = 62 from rfl]
  by_cases h : (d : Int) ≤ 62
  · have hd : d < 64 := by clear hS hS64; omega
    rw [cd_t h, msk hy hd, yL_and hd hS64, yL_shr hy hd hS64, lc_ne, show (0 : Int64) = lN 0 from rfl, dcg (not_congr (yL_inj (Nat.lt_of_le_of_lt (Nat.mod_le _ _) hS64) (by decide)))]
    have hq : S / 2 ^ d < 2 ^ 64 := Nat.lt_of_le_of_lt (Nat.div_le_self _ _) hS64
    unfold stk
    by_cases hz : S % 2 ^ d = 0
    · rw [cd_f (fun z => z hz), if_pos hz, show Int32.toInt64 (0 : Int32) = lN 0 from by decide, wb_or hq (by decide), Nat.or_zero]
    · rw [cd_t hz, if_neg hz, show Int32.toInt64 (1 : Int32) = lN 1 from by decide, wb_or hq (by decide), stk_or]
  · rw [cd_f h, lc_ne, show (0 : Int64) = lN 0 from rfl, dcg (not_congr (yL_inj hS64 (by decide)))]
    have hlt : S < 2 ^ d := Nat.lt_of_lt_of_le hS (Nat.pow_le_pow_right (by decide) (by clear hS hS64; omega))
    unfold stk
    rw [Nat.mod_eq_of_lt hlt, Nat.div_eq_of_lt hlt]
    by_cases hz : S = 0
    · rw [cd_f (fun z => z hz), if_pos hz]
    · rw [cd_t hz, if_neg hz]
      rfl
theorem z_n0 {u : Nat} (h : ze u ≠ 0) : 2 ^ 52 ≤ zm u := by unfold zm; rw [if_neg h]; exact Nat.le_add_left _ _
theorem z_ord {u v : Nat} (h : zs v ≤ zs u) : zx v ≤ zx u ∧ zm v ≤ zm u * 2 ^ (zx u - zx v).toNat := by
  have e1 := zs_eq u
  have e2 := zs_eq v
  have l1 : zs u % 2 ^ 52 < 2 ^ 52 := Nat.mod_lt _ (by decide)
  have l2 : zs v % 2 ^ 52 < 2 ^ 52 := Nat.mod_lt _ (by decide)
  rw [e1, e2] at h
  unfold zx zm
  generalize zs u % 2 ^ 52 = fu at *
  generalize zs v % 2 ^ 52 = fv at *
  generalize ze u = a at *
  generalize ze v = b at *
  generalize 2 ^ 52 = H at *
  have hab : b ≤ a := by
    refine Nat.le_of_not_lt fun z => ?_
    have := Nat.mul_le_mul_right H (show a + 1 ≤ b from z)
    rw [Nat.add_mul, Nat.one_mul] at this
    omega
  by_cases hb : b = 0
  · rw [if_pos hb, if_pos hb]
    by_cases ha : a = 0
    · rw [if_pos ha, if_pos ha]
      refine ⟨Int.le_refl _, ?_⟩
      rw [show ((-1074 : Int) - -1074).toNat = 0 from rfl, Nat.pow_zero, Nat.mul_one]
      rw [ha, hb, Nat.zero_mul, Nat.zero_add, Nat.zero_add] at h
      exact h
    · rw [if_neg ha, if_neg ha]
      refine ⟨by omega, ?_⟩
      have := Nat.mul_le_mul_left (fu + H) (pw_pos ((a : Int) - 1075 - -1074).toNat)
      omega
  · rw [if_neg hb, if_neg hb, if_neg (by omega : ¬ a = 0), if_neg (by omega : ¬ a = 0)]
    refine ⟨by omega, ?_⟩
    by_cases hq : a = b
    · subst hq
      rw [show ((a : Int) - 1075 - ((a : Int) - 1075)).toNat = 0 by omega, Nat.pow_zero, Nat.mul_one]
      omega
    · obtain ⟨k, hk⟩ : ∃ k, ((a : Int) - 1075 - ((b : Int) - 1075)).toNat = k + 1 := ⟨a - b - 1, by omega⟩
      rw [hk, Nat.pow_succ]
      have := Nat.mul_le_mul_left (fu + H) (show 2 ≤ 2 ^ k * 2 from by have := pw_pos k; omega)
      omega
theorem z_big {u v d : Nat} (hd : zx u - zx v = (d : Int)) (h : 10 ≤ d) : 2 ^ 52 ≤ zm u := by
  apply z_n0
  intro z
  have := zx_b v
  unfold zx at hd this
  rw [if_pos z] at hd
  omega
/-- enough bits stay -/
theorem sum_b {m n d P : Nat} (hm : 2 ^ 52 ≤ m) (hn : n < 2 ^ 53) (hd : 10 ≤ d) (hP : m * 2 ^ 9 * 2 ^ d - n * 2 ^ 9 ≤ P) : 2 ^ 55 ≤ P / 2 ^ d := by
  rw [Nat.le_div_iff_mul_le (pw_pos d)]
  have h1 : 2 ^ 10 ≤ 2 ^ d := Nat.pow_le_pow_right (by decide) hd
  have h2 : 2 ^ 52 * 2 ^ 9 * 2 ^ d ≤ m * 2 ^ 9 * 2 ^ d := Nat.mul_le_mul_right _ (Nat.mul_le_mul_right _ hm)
  obtain ⟨K, hK⟩ : ∃ K, K = 2 ^ d := ⟨_, rfl⟩
  obtain ⟨A, hA⟩ : ∃ A, A = m * 2 ^ 9 * 2 ^ d := ⟨_, rfl⟩
  rw [← hA] at h2 hP
  rw [← hK] at h1 h2 ⊢
  clear hA hK hm
  have e1 : 2 ^ 52 * 2 ^ 9 = 2305843009213693952 := by decide
  rw [e1] at h2
  have e2 : (2 : Nat) ^ 53 = 9007199254740992 := by decide
  have e3 : (2 : Nat) ^ 55 = 36028797018963968 := by decide
  have e4 : (2 : Nat) ^ 9 = 512 := by decide
  have e5 : (2 : Nat) ^ 10 = 1024 := by decide
  rw [e2] at hn
  rw [e4] at hP
  rw [e5] at h1
  rw [e3]
  omega
