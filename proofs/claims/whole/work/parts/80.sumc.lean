/-! REALS: the class's sum of finite reals -/
theorem stk_0 (d : Nat) : stk 0 d = 0 := by unfold stk; rw [Nat.zero_mod, if_pos rfl, Nat.zero_div]
theorem stk_n0 {P d : Nat} (h : P ≠ 0) : stk P d ≠ 0 := by
  unfold stk
  split
  · next hz => exact fun z => h (by rw [← Nat.div_add_mod P (2 ^ d), hz, z, Nat.mul_zero])
  · omega
theorem stk_le {S d b : Nat} (h : S < 2 ^ b) (hb : 1 ≤ b) : stk S d < 2 ^ b := by
  have h1 : S / 2 ^ d ≤ S := Nat.div_le_self _ _
  have hh := pw_half hb
  unfold stk
  generalize S / 2 ^ d = q at *
  split <;> omega
theorem m9_lt (u : Nat) : zm u * 2 ^ 9 < 2 ^ 62 := Nat.lt_of_lt_of_le ((Nat.mul_lt_mul_right (by decide)).mpr (zm_lt u)) (by decide)
theorem m9_ev (m : Nat) : m * 2 ^ 9 % 2 = 0 := by rw [show m * 2 ^ 9 = m * 2 ^ 8 * 2 by rw [Nat.mul_assoc], Nat.mul_mod_left]
/-- total and exponent -/
theorem sum_90 {u d T P : Nat} {v : Nat} {w0 : Int64} (hu : u < 2 ^ 64) (hd : zx u - zx v = (d : Int)) (hT : T = stk (P * 2 ^ 9) d) (hT2 : T < 2 ^ 63) (hP : P ≠ 0) (hb : 10 ≤ d → 2 ^ 55 ≤ P * 2 ^ 9 / 2 ^ d) : t_Re_sum_90 (lN u) (lN T) w0 = w0 ||| lN (pk 52 1023 P (zx v) false) := by
  unfold t_Re_sum_90
  have he := d_exp hu
  have hx := zx_b u
  have e9 : (f_Re_exponent (lN u) - (9 : Int32)).toInt = zx u - 9 := i_subn he (show ((9 : Int32).toInt) = 9 from rfl) (by clear hT2 hu hb hT; omega) (by clear hT2 hu hb hT; omega) (by decide) (by decide)
  have hP9 : P * 2 ^ 9 ≠ 0 := Nat.mul_ne_zero hP (by decide)
  have hT0 : T ≠ 0 := by rw [hT]; exact stk_n0 hP9
  rw [r52 hT0 hT2 (by rw [e9]; clear hT2 hu hb hT; omega), e9]
  congr 2
  rw [hT, show zx u - 9 = (zx v - 9) + (d : Int) by omega]
  rw [pk_stk hP9 (fun hz => hb (by
    refine Nat.le_of_not_lt fun z => hz ?_
    have : P * 2 ^ 9 = P * 2 ^ (9 - d) * 2 ^ d := by rw [Nat.mul_assoc, ← pw_add]; congr 2; clear hT2 hu hb hT; omega
    rw [this, Nat.mul_mod_left]))]
  have := pk_scale (p := 52) (B := 1023) hP 9 (zx v - 9)
  rw [this]
  congr 1
  omega
theorem sum_75 {u v d T P : Nat} {X Y w0 w1 : Int64} (hu : u < 2 ^ 64) (hd : zx u - zx v = (d : Int)) (hw : w1 + w0 = lN T) (hT : T = stk (P * 2 ^ 9) d) (hT2 : T < 2 ^ 63) (hb : P ≠ 0 → 10 ≤ d → 2 ^ 55 ≤ P * 2 ^ 9 / 2 ^ d) :
    t_Re_sum_75 X Y (lN u) w0 w1 = if P = 0 then (X &&& Y) &&& (-9223372036854775808) else (lN u &&& (-9223372036854775808)) ||| lN (pk 52 1023 P (zx v) false) := by
  unfold t_Re_sum_75
  rw [hw, lc_ne, show (0 : Int64) = lN 0 from rfl, dcg (not_congr (yL_inj (lt64 hT2) (by decide)))]
  by_cases hP : P = 0
  · have hT0 : T = 0 := by rw [hT, hP, Nat.zero_mul, stk_0]
    rw [cd_f (fun z => z hT0), if_pos hP, hT0]
    unfold t_Re_sum_90 f_Re_rounded
    rw [lc_ne, show (lN 0 : Int64) = 0 from rfl, cd_f (fun z => z rfl)]
    exact Int64.or_zero
  · have hT0 : T ≠ 0 := by rw [hT]; exact stk_n0 (Nat.mul_ne_zero hP (by decide))
    rw [cd_t hT0, if_neg hP]
    exact sum_90 hu hd hT hT2 hP (hb hP)
def sumP (al : Bool) (u v : Nat) : Nat := if al then zm u * 2 ^ (zx u - zx v).toNat + zm v else zm u * 2 ^ (zx u - zx v).toNat - zm v
theorem sum_37 {u v : Nat} {X Y : Int64} {v4 : Int32} (hu : u < 2 ^ 64) (hv : v < 2 ^ 64) (hf : zs u ≠ 2047 * 2 ^ 52) (h : zs v ≤ zs u) :
    t_Re_sum_37 X Y v4 (lN u) (lN v) = if sumP (decide (¬ v4.toInt = 0)) u v = 0 then (X &&& Y) &&& (-9223372036854775808) else (lN u &&& (-9223372036854775808)) ||| lN (pk 52 1023 (sumP (decide (¬ v4.toInt = 0)) u v) (zx v) false) := by
  obtain ⟨o1, o2⟩ := z_ord h
  obtain ⟨d, hd⟩ : ∃ d : Nat, zx u - zx v = (d : Int) := ⟨(zx u - zx v).toNat, by clear hu hv hf; omega⟩
  have hx := zx_b u
  have hy := zx_b v
  have ee : (f_Re_exponent (lN u) - f_Re_exponent (lN v)).toInt = (d : Int) := by rw [i_subn (d_exp hu) (d_exp hv) (by clear hu hv hf; omega) (by clear hu hv hf; omega) (by clear hu hv hf; omega) (by clear hu hv hf; omega), hd]
  have hmv := mvr (y := f_Re_exponent (lN u) - f_Re_exponent (lN v)) (m9_lt v) ee
  unfold t_Re_sum_37
  rw [show f_Re_size (lN u) = lN (zs u) from d_size hu, lc_ne, show (9218868437227405312 : Int64) = lN (2047 * 2 ^ 52) from by decide, dcg (not_congr (yL_inj (zs_64 u) (by decide))), cd_t hf, d_manR hu, d_manR hv]
  rw [show lN (zm u) <<< (Int32.toInt64 (9 : Int32) &&& 63) = lN (zm u * 2 ^ 9) from yL_shl (y := 9) rfl (by decide), show lN (zm v) <<< (Int32.toInt64 (9 : Int32) &&& 63) = lN (zm v * 2 ^ 9) from yL_shl (y := 9) rfl (by decide), hmv, c1_eq]
  have hS := stk_le (d := d) (m9_lt v) (by decide)
  have hA := m9_lt u
  have hsc : (zm u * 2 ^ (zx u - zx v).toNat) = zm u * 2 ^ d := by rw [hd, Int.toNat_natCast]
  unfold sumP
  rw [hsc] at o2 ⊢
  have e62 : (2 : Nat) ^ 63 = 2 ^ 62 + 2 ^ 62 := by decide
  by_cases hal : v4.toInt = 0
  · rw [cd_t hal, show decide (¬ v4.toInt = 0) = false from decide_eq_false (fun z => z hal), if_neg (show ¬ (false = true) by decide)]
    have hle : zm v * 2 ^ 9 ≤ zm u * 2 ^ 9 * 2 ^ d := by
      rw [Nat.mul_assoc, Nat.mul_comm (2 ^ 9) (2 ^ d), ← Nat.mul_assoc]
      exact Nat.mul_le_mul_right _ o2
    obtain ⟨k1, k2⟩ := stk_sub (m9_ev (zm u)) hle
    have eP : (zm u * 2 ^ d - zm v) * 2 ^ 9 = zm u * 2 ^ 9 * 2 ^ d - zm v * 2 ^ 9 := by rw [Nat.sub_mul, Nat.mul_assoc, Nat.mul_comm (2 ^ d) (2 ^ 9), ← Nat.mul_assoc]
    refine sum_75 (T := zm u * 2 ^ 9 - stk (zm v * 2 ^ 9) d) hu hd ?_ (by rw [eP]; exact k1) (Nat.lt_of_le_of_lt (Nat.sub_le _ _) (Nat.lt_trans hA (by decide))) (fun _ hd10 => by rw [eP]; exact sum_b (z_big hd hd10) (zm_lt v) hd10 (Nat.le_refl _))
    rw [← yL_sub k2]
    exact (Int64.sub_eq_add_neg _ _).symm
  · rw [cd_f hal, show decide (¬ v4.toInt = 0) = true from decide_eq_true hal, if_pos rfl]
    have eP : (zm u * 2 ^ d + zm v) * 2 ^ 9 = zm u * 2 ^ 9 * 2 ^ d + zm v * 2 ^ 9 := by rw [Nat.add_mul, Nat.mul_assoc, Nat.mul_comm (2 ^ d) (2 ^ 9), ← Nat.mul_assoc]
    refine sum_75 (T := zm u * 2 ^ 9 + stk (zm v * 2 ^ 9) d) hu hd (yL_add _ _) (by rw [eP]; exact stk_add (m9_ev (zm u))) (by rw [e62]; exact Nat.add_lt_add hA hS) (fun _ hd10 => by rw [eP]; exact sum_b (z_big hd hd10) (zm_lt v) hd10 (Nat.le_trans (Nat.sub_le _ _) (Nat.le_add_right _ _)))
