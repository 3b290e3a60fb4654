/-! REALS: sign, field and places of the 64 bits u -/
def zs (u : Nat) : Nat := u % 2 ^ 63
def ze (u : Nat) : Nat := zs u / 2 ^ 52
def zm (u : Nat) : Nat := if ze u = 0 then zs u % 2 ^ 52 else zs u % 2 ^ 52 + 2 ^ 52
def zx (u : Nat) : Int := if ze u = 0 then -1074 else (ze u : Int) - 1075
theorem zs_lt (u : Nat) : zs u < 2 ^ 63 := Nat.mod_lt _ (by decide)
theorem ze_lt (u : Nat) : ze u < 2048 := by
  unfold ze
  exact (Nat.div_lt_iff_lt_mul (by decide)).mpr (Nat.lt_of_lt_of_le (zs_lt u) (by decide))
theorem zm_lt (u : Nat) : zm u < 2 ^ 53 := by
  unfold zm
  have := Nat.mod_lt (zs u) (show 0 < 2 ^ 52 by decide)
  have e : 2 ^ 53 = 2 * 2 ^ 52 := by decide
  split <;> omega
theorem zx_b (u : Nat) : -1074 ≤ zx u ∧ zx u ≤ 972 := by
  have := ze_lt u
  unfold zx
  split <;> omega
theorem zs_eq (u : Nat) : zs u = ze u * 2 ^ 52 + zs u % 2 ^ 52 := by unfold ze; rw [Nat.mul_comm]; exact (Nat.div_add_mod _ _).symm
theorem ze_u (u : Nat) : u / 2 ^ 52 % 2 ^ 11 = ze u := by
  unfold ze zs
  rw [Nat.mod_mul_right_div_self u (2 ^ 52) (2 ^ 11) |>.symm, show 2 ^ 52 * 2 ^ 11 = 2 ^ 63 by decide]
theorem zm_u (u : Nat) : u % 2 ^ 52 = zs u % 2 ^ 52 := by
  unfold zs
  rw [Nat.mod_mod_of_dvd _ (by decide)]
theorem and_inf (u : Nat) : u &&& 9218868437227405312 = ze u * 2 ^ 52 := by
  have h1 : (u &&& 9218868437227405312) / 2 ^ 52 = ze u := by
    rw [Nat.and_div_two_pow, show 9218868437227405312 / 2 ^ 52 = 2 ^ 11 - 1 by decide, Nat.and_two_pow_sub_one_eq_mod, ze_u]
  have h2 : (u &&& 9218868437227405312) % 2 ^ 52 = 0 := by
    rw [Nat.and_mod_two_pow, show 9218868437227405312 % 2 ^ 52 = 0 by decide, Nat.and_zero]
  have h3 := Nat.div_add_mod (u &&& 9218868437227405312) (2 ^ 52)
  rw [h1, h2] at h3
  omega
theorem zs_64 (u : Nat) : zs u < 2 ^ 64 := lt64 (zs_lt u)
theorem ze_64 (u : Nat) : ze u < 2 ^ 64 := Nat.lt_trans (ze_lt u) (by decide)
theorem zp_64 (u : Nat) : zs u % 2 ^ 52 < 2 ^ 64 := Nat.lt_trans (Nat.mod_lt _ (by decide)) (by decide)
theorem dn_t {p : Prop} [Decidable p] {b : Bool} (h : p) (e : b = decide (¬ p)) : b = false := by rw [e]; exact decide_eq_false (fun z => z h)
theorem cb_f (p : Prop) [Decidable p] : cond (decide p) false true = decide (¬ p) := by
  by_cases h : p
  · rw [cd_t h, decide_eq_false (fun z => z h)]
  · rw [cd_f h, decide_eq_true h]
section DB
variable {u : Nat}
theorem d_size (hu : u < 2 ^ 64) : lN u &&& (9223372036854775807 : Int64) = lN (zs u) := yL_and (k := 63) (by decide) hu
theorem d_nan (hu : u < 2 ^ 64) : f_Re_isNan (lN u) = decide (2047 * 2 ^ 52 < zs u) := by
  unfold f_Re_isNan
  rw [d_size hu, lc_le, yL_i (zs_lt u), show (9218868437227405312 : Int64) = lN (2047 * 2 ^ 52) from by decide, yL_i (by decide), dcg le_i, cb_f]
  exact dcg Nat.not_le
theorem d_no (hu : u < 2 ^ 64) : f_M_isNo (lN u) = decide (2047 * 2 ^ 52 < zs u) := d_nan hu
theorem d_inf (hu : u < 2 ^ 64) : f_M_isInfinite (lN u) = decide (zs u = 2047 * 2 ^ 52) := by
  unfold f_M_isInfinite
  rw [d_size hu, lc_ne, show (9218868437227405312 : Int64) = lN (2047 * 2 ^ 52) from by decide, dcg (not_congr (yL_inj (zs_64 u) (by decide))), cb_f]
  exact dcg Decidable.not_not
theorem d_zero (hu : u < 2 ^ 64) : f_M_isZero (lN u) = decide (zs u = 0) := by
  unfold f_M_isZero
  rw [d_size hu, lc_ne, show (0 : Int64) = lN 0 from rfl, dcg (not_congr (yL_inj (zs_64 u) (by decide))), cb_f]
  exact dcg Decidable.not_not
theorem d_or52 (u : Nat) : lN (zs u % 2 ^ 52) ||| (4503599627370496 : Int64) = lN (zs u % 2 ^ 52 + 2 ^ 52) := by
  have := g_or' (k := 52) (p := 2 ^ 52) (a := zs u % 2 ^ 52) (b := 1) rfl (Nat.mod_lt _ (by decide)) (Nat.lt_of_lt_of_le (Nat.add_lt_add_right (Nat.mod_lt _ (by decide)) _) (by decide))
  rw [Nat.one_mul] at this
  exact this
theorem d_shr (hu : u < 2 ^ 64) : (Int64.toUInt64 (lN u) >>> (Int64.toUInt64 (Int32.toInt64 (52 : Int32)) &&& Int64.toUInt64 63)).toInt64 = lN (u / 2 ^ 52) := yL_shr (y := 52) rfl (by decide) hu
theorem d_q64 (hu : u < 2 ^ 64) : u / 2 ^ 52 < 4096 := (Nat.div_lt_iff_lt_mul (by decide)).mpr (Nat.lt_of_lt_of_le hu (by decide))
theorem d_f11 (hu : u < 2 ^ 64) : lN (u / 2 ^ 52) &&& (2047 : Int64) = lN (ze u) := by
  rw [← ze_u]
  exact yL_and (k := 11) (by decide) (Nat.lt_trans (d_q64 hu) (by decide))
theorem d_p52 (hu : u < 2 ^ 64) : lN u &&& (4503599627370495 : Int64) = lN (zs u % 2 ^ 52) := by
  rw [← zm_u]
  exact yL_and (k := 52) (by decide) hu
theorem d_manM (hu : u < 2 ^ 64) : f_M_mantissa (lN u) = lN (zm u) := by
  unfold f_M_mantissa zm
  rw [d_shr hu, d_f11 hu, lc_ne, show (0 : Int64) = lN 0 from rfl, dcg (not_congr (yL_inj (ze_64 u) (by decide))), d_p52 hu, d_or52]
  by_cases h : ze u = 0
  · rw [cd_f (fun z => z h), if_pos h]
  · rw [cd_t h, if_neg h]
theorem d_manR (hu : u < 2 ^ 64) : f_Re_mantissa (lN u) = lN (zm u) := by
  unfold f_Re_mantissa zm
  have h0 : ze u * 2 ^ 52 < 2 ^ 64 := Nat.lt_of_lt_of_le ((Nat.mul_lt_mul_right (by decide)).mpr (ze_lt u)) (by decide)
  rw [show lN u &&& (9218868437227405312 : Int64) = lN (ze u * 2 ^ 52) from by rw [← and_inf]; exact wb_and hu (by decide), lc_ne, show (0 : Int64) = lN 0 from rfl, dcg (not_congr (yL_inj h0 (by decide))), d_p52 hu, d_or52]
  by_cases h : ze u = 0
  · rw [cd_f (fun z => z (by rw [h])), if_pos h]
  · rw [cd_t (show ¬ ze u * 2 ^ 52 = 0 from fun z => h ((Nat.mul_eq_zero.mp z).resolve_right (by decide))), if_neg h]
theorem i32_of {k : Nat} (h : k < 2147483648) : Int64.toInt32 (lN k) = nI k := by
  apply Int32.toInt_inj.mp
  rw [Int64.toInt_toInt32, yL_i (Nat.lt_trans h (by decide)), yI_i h]
  exact Int.bmod_eq_of_le (by omega) (by omega)
theorem d_fld (hu : u < 2 ^ 64) : (f_Re_field (lN u)).toInt = (ze u : Int) := by
  unfold f_Re_field
  have h1 := d_q64 hu
  rw [d_shr hu, i32_of (Nat.lt_trans h1 (by decide)), show (2047 : Int32) = nI 2047 from rfl, nx_and, show 2047 = 2 ^ 11 - 1 from rfl, Nat.and_two_pow_sub_one_eq_mod, ze_u, yI_i (Nat.lt_trans (ze_lt u) (by decide))]
theorem d_exp (hu : u < 2 ^ 64) : (f_Re_exponent (lN u)).toInt = zx u := by
  have hl := ze_lt u
  have hf := d_fld hu
  clear hu
  unfold f_Re_exponent zx
  have h1 : (if f_Re_field (lN u) < (1 : Int32) then (1 : Int32) else f_Re_field (lN u)).toInt = if ze u = 0 then 1 else (ze u : Int) := by
    by_cases h : ze u = 0
    · rw [if_pos (by rw [Int32.lt_iff_toInt_lt, hf, show ((1 : Int32).toInt) = 1 from rfl]; omega), if_pos h]
      rfl
    · rw [if_neg (by rw [Int32.lt_iff_toInt_lt, hf, show ((1 : Int32).toInt) = 1 from rfl]; omega), if_neg h, hf]
  rw [i_subn (i_subn h1 (show ((1023 : Int32).toInt) = 1023 from rfl) (by split <;> omega) (by split <;> omega) (by omega) (by omega)) (show ((52 : Int32).toInt) = 52 from rfl) (by split <;> omega) (by split <;> omega) (by omega) (by omega)]
  split <;> omega
theorem d_pow (hu : u < 2 ^ 64) : (f_M_power (lN u)).toInt = zx u := by
  have hl := ze_lt u
  unfold f_M_power t_M_power_7
  rw [d_shr hu, d_f11 hu, i32_of (Nat.lt_trans hl (by decide))]
  clear hu
  have h1 : (nI (ze u)).toInt = (ze u : Int) := yI_i (by omega)
  rw [c1_ne, h1]
  unfold zx
  by_cases h : ze u = 0
  · rw [cd_f (by omega), if_pos h]
    decide
  · rw [cd_t (by omega), if_neg h, i_subn h1 (show ((1075 : Int32).toInt) = 1075 from rfl) (by omega) (by omega) (by omega) (by omega)]
theorem d_neg (hu : u < 2 ^ 64) : (lN u).toInt < 0 ↔ 2 ^ 63 ≤ u := by
  rw [lN_ti hu]
  by_cases h : u < 2 ^ 63
  · rw [if_pos h]
    exact ⟨fun z => absurd z (by omega), fun z => absurd z (Nat.not_le.mpr h)⟩
  · rw [if_neg h]
    exact ⟨fun _ => Nat.le_of_not_lt h, fun _ => by omega⟩
end DB
theorem d_of (x : Int64) : ∃ u, u < 2 ^ 64 ∧ x = lN u := wb_of x
