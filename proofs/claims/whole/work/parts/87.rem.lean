/-! REALS: the remainder -/
theorem pk_self {u : Nat} (h0 : zm u ≠ 0) (hf : zs u < 2047 * 2 ^ 52) : pk 52 1023 (zm u) (zx u) false = zs u := by
  have e := zs_eq u
  have l1 : zs u % 2 ^ 52 < 2 ^ 52 := Nat.mod_lt _ (by decide)
  have hz : ze u ≤ 2046 := by
    have : ze u < 2047 := by unfold ze; exact (Nat.div_lt_iff_lt_mul (by decide)).mpr hf
    omega
  unfold zm at h0
  unfold zm zx
  by_cases h : ze u = 0
  · rw [if_pos h] at h0 ⊢
    rw [if_pos h]
    rw [h, Nat.zero_mul, Nat.zero_add] at e
    rw [← e] at h0 l1 ⊢
    have hn := nb_lx l1 h0
    have hb := nb_1 (zs u)
    unfold pk
    generalize nb (zs u) = k at *
    rw [if_neg (by clear l1 hf e; omega), if_pos (show (-1074 : Int) + k - 1 + ((1023 : Nat) : Int) < 1 by clear l1 hf e; omega), if_pos (by clear l1 hf e; omega)]
    rw [show ((-1074 : Int) + k - 1 + ((1023 : Nat) : Int) - 1).toNat = 0 by clear l1 hf e; omega, show (-((k : Int) - (((52 : Nat) : Int) + 1) + (1 - ((-1074 : Int) + k - 1 + ((1023 : Nat) : Int))))).toNat = 0 by clear l1 hf e; omega, Nat.zero_mul, Nat.zero_add, Nat.pow_zero, Nat.mul_one]
  · rw [if_neg h, if_neg h]
    have hn : nb (zs u % 2 ^ 52 + 2 ^ 52) = 53 := nb_eq (k := 52) (Nat.le_add_left _ _) (by rw [show 2 ^ (52 + 1) = 2 ^ 52 + 2 ^ 52 by decide]; exact Nat.add_lt_add_right l1 _)
    unfold pk
    rw [hn]
    obtain ⟨f, hF⟩ : ∃ f, f = zs u % 2 ^ 52 := ⟨_, rfl⟩
    rw [← hF] at e ⊢
    rw [if_neg (by clear l1 hf e; omega), if_neg (show ¬ ((ze u : Int) - 1075 + ((53 : Nat) : Int) - 1 + ((1023 : Nat) : Int) < 1) by clear l1 hf e; omega), if_pos (by clear l1 hf e; omega)]
    obtain ⟨k, hk⟩ : ∃ k, ze u = k + 1 := ⟨ze u - 1, by clear l1 hf e; omega⟩
    rw [hk] at e ⊢
    rw [e, show (((k + 1 : Nat) : Int) - 1075 + ((53 : Nat) : Int) - 1 + ((1023 : Nat) : Int) - 1).toNat = k by clear l1 hf e; omega, show (-(((53 : Nat) : Int) - (((52 : Nat) : Int) + 1) + 0)).toNat = 0 from rfl, Nat.pow_zero, Nat.mul_one, Nat.succ_mul, Nat.add_assoc, Nat.add_comm f]
theorem nb_mono {a b : Nat} (h : a ≤ b) (h0 : a ≠ 0) : nb a ≤ nb b := nb_lx (Nat.lt_of_le_of_lt h (nb_lt b)) h0
theorem zn_ord {u v : Nat} (h0 : zm u ≠ 0) (h1 : zm v ≠ 0) (h : zs v ≤ zs u) : zy v ≤ zy u := by
  obtain ⟨o1, o2⟩ := z_ord h
  have a := nb_mono o2 h1
  rw [nb_mul h0] at a
  have l1 := nb_lx (zm_lt u) h0
  have l2 := nb_lx (zm_lt v) h1
  unfold zy zg
  omega
theorem zn_ord2 {u v : Nat} (h0 : zm u ≠ 0) (h1 : zm v ≠ 0) (h : zs u < zs v) (hy : zy v ≤ zy u) : zy u = zy v ∧ zn u < zn v := by
  have e := Int.le_antisymm (zn_ord h1 h0 (Nat.le_of_lt h)) hy
  refine ⟨e, ?_⟩
  obtain ⟨o1, o2⟩ := z_ord (Nat.le_of_lt h)
  obtain ⟨d, hd⟩ : ∃ d : Nat, zx v - zx u = (d : Int) := ⟨(zx v - zx u).toNat, by omega⟩
  rw [hd, Int.toNat_natCast] at o2
  have hg : zg v = d + zg u := by unfold zy at e; omega
  have hne : zm u ≠ zm v * 2 ^ d := fun z => by
    by_cases d0 : d = 0
    · rw [d0, Nat.pow_zero, Nat.mul_one] at z
      exact Nat.ne_of_lt h (z_inj (by omega) z)
    · have hb : 2 ^ 52 ≤ zm v := z_n0 (fun y => by
        have := zx_b u
        unfold zx at hd this
        rw [if_pos y] at hd
        omega)
      have h2 : 2 ^ 53 ≤ zm v * 2 ^ d := by
        rw [show (2 : Nat) ^ 53 = 2 ^ 52 * 2 ^ 1 by decide]
        exact Nat.mul_le_mul hb (Nat.pow_le_pow_right (by decide) (Nat.one_le_iff_ne_zero.mpr d0))
      rw [← z] at h2
      exact absurd (zm_lt u) (Nat.not_lt.mpr h2)
  unfold zn
  rw [hg, pw_add, ← Nat.mul_assoc]
  exact (Nat.mul_lt_mul_right (pw_pos _)).mpr (Nat.lt_of_le_of_ne o2 hne)
theorem z_join {u : Nat} (hu : u < 2 ^ 64) : lN (zs u) ||| SG (sn u) = lN u := by
  have h3 := Nat.div_add_mod' u (2 ^ 63)
  have h5 : u / 2 ^ 63 < 2 := (Nat.div_lt_iff_lt_mul (by decide)).mpr hu
  have h6 : SG (sn u) = lN (u / 2 ^ 63 * 2 ^ 63) := by
    unfold SG sn
    by_cases h : 2 ^ 63 ≤ u
    · have h4 : 1 ≤ u / 2 ^ 63 := (Nat.le_div_iff_mul_le (by decide)).mpr (by rw [Nat.one_mul]; exact h)
      have h7 : u / 2 ^ 63 = 1 := by clear h3 h hu; omega
      rw [decide_eq_true h, if_pos rfl, h7]
      decide
    · rw [decide_eq_false h, if_neg (by decide), Nat.div_eq_of_lt (Nat.lt_of_not_le h), Nat.zero_mul]
      rfl
  have h8 : zs u + u / 2 ^ 63 * 2 ^ 63 = u := by unfold zs; rw [Nat.add_comm]; exact h3
  rw [h6, g_or' (k := 63) rfl (zs_lt u) (by rw [h8]; exact hu), h8]
def fin_r (u v r : Nat) : Int64 := if r = 0 then SG (sn u) else lN (pk 52 1023 r (zy v) false) ||| SG (sn u)
theorem rem_end {u v r : Nat} {v8 : Int32} (hu : u < 2 ^ 64) (h8 : v8.toInt = zy v) (hr : r < 2 ^ 53) : (lN u &&& (-9223372036854775808 : Int64)) ||| (f_Re_rounded (lN r) v8 (52 : Int32) (1023 : Int32)) = fin_r u v r := by
  have hY := zy_b v
  unfold fin_r
  rw [sgn_and hu]
  by_cases h : r = 0
  · rw [if_pos h, h]
    unfold f_Re_rounded
    rw [lc_ne, show (lN 0 : Int64) = 0 from rfl, cd_f (fun z => z rfl)]
    exact Int64.or_zero
  · rw [if_neg h, r52 h (Nat.lt_trans hr (by decide)) (by rw [h8]; clear hu hr; omega), h8, Int64.or_comm]
theorem mod_sh (x n s : Nat) : x % n * 2 ^ s % n = x * 2 ^ s % n := Nat.mod_mul_mod x (2 ^ s) n
theorem rem_69 {u v n : Nat} {v8 : Int32} (hu : u < 2 ^ 64) (h8 : v8.toInt = zy v) (hn : 0 < n) (hn2 : n < 2 ^ 53) : ∀ (k j x : Nat) (w : Int32), w.toInt = (j : Int) → j ≤ 10 * k → j ≤ 10000 → t_Re_remainder_69 (k + 1) (lN u) (lN n) v8 (lN (x % n)) w = fin_r u v (x * 2 ^ j % n) := by
  have n63 : n < 2 ^ 63 := Nat.lt_trans hn2 (by decide)
  have hend : ∀ (k x : Nat) (w : Int32), w.toInt ≤ 0 → t_Re_remainder_69 (k + 1) (lN u) (lN n) v8 (lN (x % n)) w = fin_r u v (x % n) := fun k x w hw => by
    rw [t_Re_remainder_69, c1_le, cd_t hw]
    exact rem_end hu h8 (Nat.lt_trans (Nat.mod_lt _ hn) hn2)
  intro k
  induction k with
  | zero =>
    intro j x w hw hj _
    have j0 : j = 0 := by omega
    rw [hend 0 x w (by rw [hw, j0]; decide), j0, Nat.pow_zero, Nat.mul_one]
  | succ k ih =>
    intro j x w hw hj hj2
    by_cases j0 : j = 0
    · rw [hend (k + 1) x w (by rw [hw, j0]; decide), j0, Nat.pow_zero, Nat.mul_one]
    · have hr : x % n < 2 ^ 53 := Nat.lt_trans (Nat.mod_lt _ hn) hn2
      have w1 : (w + Int32.ofInt (-10)).toInt = (j : Int) + -10 := by rw [i_add (-10) (by rw [hw]; clear hr hn2 n63 hu; omega) (by rw [hw]; clear hr hn2 n63 hu; omega) (by decide) (by decide), hw]
      rw [t_Re_remainder_69, c1_le, cd_f (by rw [hw]; clear hr hn2 n63 hu; omega)]
      by_cases h10 : 10 < j
      · rw [if_pos (by rw [Int32.lt_iff_toInt_lt, hw, show ((10 : Int32).toInt) = 10 from rfl]; clear hr hn2 n63 hu; omega), yL_shl (y := 10) (k := 10) rfl (by decide), yL_rem (a := x % n * 2 ^ 10) (Nat.lt_of_lt_of_le ((Nat.mul_lt_mul_right (pw_pos 10)).mpr hr) (by decide)) n63, mod_sh]
        rw [ih (j - 10) _ _ (by rw [w1]; clear hr hn2 n63 hu; omega) (by clear hr hn2 n63 hu; omega) (by clear hr hn2 n63 hu; omega), Nat.mul_assoc, ← pw_add, show 10 + (j - 10) = j by clear hr hn2 n63 hu; omega]
      · rw [if_neg (by rw [Int32.lt_iff_toInt_lt, hw, show ((10 : Int32).toInt) = 10 from rfl]; clear hr hn2 n63 hu; omega), yL_shl hw (by clear hr hn2 n63 hu; omega), yL_rem (Nat.lt_of_lt_of_le ((Nat.mul_lt_mul_right (pw_pos j)).mpr hr) (Nat.le_trans (Nat.mul_le_mul_left _ (Nat.pow_le_pow_right (by decide) (Nat.le_of_not_lt h10))) (by decide))) n63, mod_sh]
        exact hend k _ _ (by rw [w1]; clear hr hn2 n63 hu; omega)
theorem rem_63 {u v n : Nat} {v9 : Int32} (hu : u < 2 ^ 64) (h9 : v9.toInt = zy v) (hn : 0 < n) (hn2 : n < 2 ^ 53) : ∀ (j y : Nat) (w : Int32), w.toInt = (j : Int) → j ≤ 10000 → y < 2 * n → t_M_left_63 (j + 2) (lN u) (lN y) (lN n) v9 w = fin_r u v (y * 2 ^ j % n) := by
  have n63 : n < 2 ^ 63 := Nat.lt_trans hn2 (by decide)
  have hY := zy_b v
  have hend : ∀ (r : Nat) (w : Int32), r < n → w.toInt < 0 → t_M_left_63 1 (lN u) (lN r) (lN n) v9 w = fin_r u v r := fun r w hr hw => by
    have r53 := Nat.lt_trans hr hn2
    rw [show (1 : Nat) = 0 + 1 from rfl, t_M_left_63, c1_lt, cd_t hw, lc_ne, sgn_and hu, sn_ge hu]
    unfold t_M_left_96 fin_r
    by_cases h : r = 0
    · rw [cd_f (fun z => z (by rw [h]; rfl)), if_pos h]
    · rw [cd_t (show ¬ lN r = 0 from fun z => h ((yL_inj (b := 0) (Nat.lt_trans r53 (by decide)) (by decide)).mp z)), if_neg h]
      have e : ∀ x : Int32, f_M_signed x (lN r) v9 0 = lN (pk 52 1023 r (zy v) false) ||| (if x.toInt = 0 then 0 else -9223372036854775808) := fun x => by
        rw [s52 h (Nat.lt_trans r53 (by decide)) (by rw [h9]; clear hu hn2 n63 r53; omega), h9, show decide (¬ (0 : Int32).toInt = 0) = false from by decide]
      rw [e, e]
      cases sn u
      · rw [Bool.not_false, cond_true, show (if (0 : Int32).toInt = 0 then (0 : Int64) else -9223372036854775808) = SG false from by decide]
      · rw [Bool.not_true, cond_false, show (if (1 : Int32).toInt = 0 then (0 : Int64) else -9223372036854775808) = SG true from by decide]
  intro j
  induction j with
  | zero =>
    intro y w hw _ hy
    have y63 : y < 2 ^ 63 := Nat.lt_of_lt_of_le hy (Nat.le_trans (Nat.mul_le_mul_left 2 (Nat.le_of_lt hn2)) (by decide))
    have w1 : (w + Int32.ofInt (-1)).toInt = -1 := by rw [i_add (-1) (by rw [hw]; decide) (by rw [hw]; decide) (by decide) (by decide), hw]; rfl
    rw [show 0 + 2 = 1 + 1 from rfl, t_M_left_63, c1_lt, cd_f (by rw [hw]; decide), lc_lt, yL_i y63, yL_i n63, dcg Int.ofNat_lt, c1_le, cd_t (show w.toInt ≤ 0 by rw [hw]; decide), cd_t (show w.toInt ≤ 0 by rw [hw]; decide), Nat.pow_zero, Nat.mul_one]
    by_cases h : y < n
    · rw [cd_t h, Nat.mod_eq_of_lt h]
      exact hend y _ h (by rw [w1]; decide)
    · have h' := Nat.le_of_not_lt h
      have hm : y % n = y - n := by
        rw [Nat.mod_eq_sub_mod h']
        exact Nat.mod_eq_of_lt (by clear hu hn2 n63 y63; omega)
      rw [cd_f h, hm, yL_sub h']
      exact hend _ _ (by clear hu hn2 n63 y63; omega) (by rw [w1]; decide)
  | succ j ih =>
    intro y w hw hj hy
    have y63 : y < 2 ^ 63 := Nat.lt_of_lt_of_le hy (Nat.le_trans (Nat.mul_le_mul_left 2 (Nat.le_of_lt hn2)) (by decide))
    have w1 : (w + Int32.ofInt (-1)).toInt = (j : Int) := by rw [i_add (-1) (by rw [hw]; clear hu hn2 n63 y63; omega) (by rw [hw]; clear hu hn2 n63 y63; omega) (by decide) (by decide), hw]; clear hu hn2 n63 y63; omega
    have w0 : ¬ w.toInt ≤ 0 := by rw [hw]; clear hu hn2 n63 y63; omega
    rw [show j + 1 + 2 = (j + 2) + 1 from rfl, t_M_left_63, c1_lt, cd_f (by rw [hw]; clear hu hn2 n63 y63; omega), lc_lt, yL_i y63, yL_i n63, dcg Int.ofNat_lt, c1_le, cd_f w0, cd_f w0]
    have key : y * 2 ^ (j + 1) % n = y % n * 2 ^ 1 * 2 ^ j % n := by
      rw [Nat.mul_assoc, ← pw_add, Nat.add_comm 1 j, mod_sh]
    have hlt := Nat.mod_lt y hn
    rw [key]
    by_cases h : y < n
    · rw [cd_t h, Nat.mod_eq_of_lt h, yL_shl (y := 1) (k := 1) rfl (by decide)]
      exact ih _ _ w1 (by clear hu hn2 n63 y63; omega) (by rw [Nat.pow_one]; clear hu hn2 n63 y63; omega)
    · have h' := Nat.le_of_not_lt h
      have hm : y % n = y - n := by
        rw [Nat.mod_eq_sub_mod h']
        exact Nat.mod_eq_of_lt (by clear hu hn2 n63 y63; omega)
      rw [cd_f h, hm, yL_sub h', yL_shl (y := 1) (k := 1) rfl (by decide)]
      exact ih _ _ w1 (by clear hu hn2 n63 y63; omega) (by rw [Nat.pow_one]; clear hu hn2 n63 y63; omega)
theorem rem_M {u v : Nat} (hu : u < 2 ^ 64) (hv : v < 2 ^ 64) (h0 : zm u ≠ 0) (h1 : zm v ≠ 0) : t_M_left_34 53 (lN u) (lN (zm u)) (lN (zm v)) (f_M_power (lN u)) (f_M_power (lN v)) = if zy v ≤ zy u then fin_r u v (zn u * 2 ^ (zy u - zy v).toNat % zn v) else lN u := by
  have hx := zx_b u
  have hy := zx_b v
  have hX := zy_b u
  have hY := zy_b v
  have b1 := nb_1 (zm u)
  have b2 := nb_1 (zm v)
  obtain ⟨e1, q1, q2⟩ := nrm_loop (fun n a x => t_M_left_34 n (lN u) a (lN (zm v)) x (f_M_power (lN v))) (fun a x => t_M_left_44 53 (lN u) a (lN (zm v)) x (f_M_power (lN v))) (-1) (Or.inr rfl) (fun _ _ _ => rfl) 53 (zm u) _ _ h0 (zm_lt u) (by clear hu hv; omega) (d_pow hu) (by clear hu hv; omega) (by clear hu hv; omega)
  obtain ⟨e2, q3, q4⟩ := nrm_loop (fun n a x => t_M_left_44 n (lN u) (lN (zn u)) a e1 x) (fun a x => cond (cn2 .ge e1 x) (t_M_left_63 ((Int32.toInt (e1 - x)).toNat + 2) (lN u) (lN (zn u)) a x (e1 - x)) (lN u)) (-1) (Or.inr rfl) (fun _ _ _ => rfl) 53 (zm v) _ _ h1 (zm_lt v) (by clear hu hv; omega) (d_pow hv) (by clear hu hv; omega) (by clear hu hv; omega)
  have r1 : e1.toInt = zy u := by rw [q1]; unfold zy zg; clear hu hv q1 q2 q3 q4; omega
  have r2 : e2.toInt = zy v := by rw [q3]; unfold zy zg; clear hu hv q1 q2 q3 q4; omega
  refine Eq.trans q2 (Eq.trans q4 ?_)
  clear q1 q2 q3 q4
  show cond (cn2 .ge e1 e2) (t_M_left_63 _ _ _ (lN (zn v)) e2 _) _ = _
  rw [c2_ge, r1, r2]
  obtain ⟨a1, a2⟩ := zn_b h0
  obtain ⟨b1, b2⟩ := zn_b h1
  by_cases h : zy v ≤ zy u
  · rw [cd_t h, if_pos h]
    have e3 : (e1 - e2).toInt = (((zy u - zy v).toNat : Nat) : Int) := by
      rw [i_subn r1 r2 (by clear hu hv a1 a2 b1 b2; omega) (by clear hu hv a1 a2 b1 b2; omega) (by clear hu hv a1 a2 b1 b2; omega) (by clear hu hv a1 a2 b1 b2; omega)]
      clear hu hv a1 a2 b1 b2
      omega
    rw [e3, Int.toNat_natCast]
    exact rem_63 hu r2 (Nat.lt_of_lt_of_le (by decide) b1) b2 _ _ _ e3 (by clear hu hv a1 a2 b1 b2; omega) (Nat.lt_of_lt_of_le a2 (Nat.le_trans (by decide) (Nat.mul_le_mul_left 2 b1)))
  · rw [cd_f h, if_neg h]
theorem rem_R {u v : Nat} (hu : u < 2 ^ 64) (hv : v < 2 ^ 64) (h0 : zm u ≠ 0) (h1 : zm v ≠ 0) (h : zy v ≤ zy u) : t_Re_remainder_62 (lN u) (f_Re_gap (lN (zm u))) (lN (zn v)) (f_Re_exponent (lN v) - f_Re_gap (lN (zm v))) (lN (zn u) - lN (zn u) / lN (zn v) * lN (zn v)) = fin_r u v (zn u * 2 ^ (zy u - zy v).toNat % zn v) := by
  have hX := zy_b u
  have hY := zy_b v
  obtain ⟨a1, a2⟩ := zn_b h0
  obtain ⟨b1, b2⟩ := zn_b h1
  have a63 : zn u < 2 ^ 63 := Nat.lt_trans a2 (by decide)
  have b63 : zn v < 2 ^ 63 := Nat.lt_trans b2 (by decide)
  unfold t_Re_remainder_62
  have e3 : (f_Re_exponent (lN u) - f_Re_gap (lN (zm u)) - (f_Re_exponent (lN v) - f_Re_gap (lN (zm v)))).toInt = (((zy u - zy v).toNat : Nat) : Int) := by
    rw [i_subn (d_zy hu h0) (d_zy hv h1) (by clear hu hv a1 a2 b1 b2 a63 b63; omega) (by clear hu hv a1 a2 b1 b2 a63 b63; omega) (by clear hu hv a1 a2 b1 b2 a63 b63; omega) (by clear hu hv a1 a2 b1 b2 a63 b63; omega)]
    clear hu hv a1 a2 b1 b2 a63 b63
    omega
  rw [e3, Int.toNat_natCast, yL_rem a63 b63]
  exact rem_69 hu (d_zy hv h1) (Nat.lt_of_lt_of_le (by decide) b1) b2 _ _ _ _ e3 (by clear hu hv a1 a2 b1 b2 a63 b63; omega) (by clear hu hv a1 a2 b1 b2 a63 b63; omega)
theorem zc_i {u : Nat} : cn1 .eq (lg_cmp (lN (zs u)) (9218868437227405312 : Int64)) = decide (zs u = 2047 * 2 ^ 52) := by rw [lc_eq, show (9218868437227405312 : Int64) = lN (2047 * 2 ^ 52) from by decide, dcg (yL_inj (zs_64 u) (by decide))]
theorem zc_0 {u : Nat} : cn1 .ne (lg_cmp (lN (zs u)) (0 : Int64)) = !(decide (zs u = 0)) := by rw [lc_ne, show (0 : Int64) = lN 0 from rfl, dcg (not_congr (yL_inj (zs_64 u) (by decide))), dn]
theorem remainder_left (x y : Int64) : f_Re_remainder x y = f_M_left x y := by
  obtain ⟨u, hu, rfl⟩ := d_of x
  obtain ⟨v, hv, rfl⟩ := d_of y
  unfold f_Re_remainder f_M_left
  rw [d_nan hu, d_nan hv, d_no hu, d_no hv, cn1_ne_b2i, cn1_ne_b2i]
  by_cases nu : 2047 * 2 ^ 52 < zs u
  · rw [dt nu, cond_true, cond_true]
  rw [df nu, cond_false, cond_false]
  by_cases nv : 2047 * 2 ^ 52 < zs v
  · rw [dt nv, cond_true, cond_true]
  rw [df nv, cond_false, cond_false]
  rw [show f_Re_size (lN u) = lN (zs u) from d_size hu, show f_Re_size (lN v) = lN (zs v) from d_size hv, d_inf hu, d_inf hv, d_zero hu, d_zero hv, cn1_ne_b2i, cn1_ne_b2i, cn1_eq_b2i, cn1_eq_b2i, zc_i, zc_i, zc_0, lc_ge, yL_i (zs_lt u), yL_i (zs_lt v), dcg Int.ofNat_le]
  by_cases iu : zs u = 2047 * 2 ^ 52
  · rw [dt iu, cond_true, cond_true]
  rw [df iu, cond_false, cond_false]
  by_cases zv : zs v = 0
  · rw [dt zv, Bool.not_true, cond_false, cond_false]
  rw [df zv, Bool.not_false, cond_true, cond_true]
  by_cases iv : zs v = 2047 * 2 ^ 52
  · rw [dt iv, cond_true, cond_true]
  rw [df iv, cond_false, cond_false]
  by_cases zu : zs u = 0
  · rw [dt zu, Bool.not_true, cond_false, cd_f (fun z => zv (Nat.le_zero.mp (zu ▸ z)))]
  rw [df zu, Bool.not_false, cond_true]
  have mu := z_m1 zu
  have mv := z_m1 zv
  have nn : ¬ lN (zn v) = 0 := fun z => by
    have := (yL_inj (b := 0) (Nat.lt_trans (zn_b mv).2 (by decide)) (by decide)).mp z
    exact absurd this (Nat.ne_of_gt (Nat.lt_of_lt_of_le (by decide) (zn_b mv).1))
  rw [d_manM hu, d_manM hv, d_manR hu, d_manR hv, d_zn mu, d_zn mv, lc_ne, cd_t nn, rem_M hu hv mu mv]
  by_cases h : zs v ≤ zs u
  · have hz := zn_ord mu mv h
    rw [cd_t h, if_pos hz, rem_R hu hv mu mv hz]
  · rw [cd_f h]
    by_cases hz : zy v ≤ zy u
    · obtain ⟨e1, e2⟩ := zn_ord2 mu mv (Nat.lt_of_not_le h) hz
      rw [if_pos hz, e1, Int.sub_self, Int.toNat_zero, Nat.pow_zero, Nat.mul_one, Nat.mod_eq_of_lt e2]
      unfold fin_r
      rw [if_neg (Nat.ne_of_gt (Nat.lt_of_lt_of_le (by decide) (zn_b mu).1)), ← e1]
      unfold zn
      rw [pk_scale mu, show zy u + (zg u : Int) = zx u by unfold zy; clear hu hv nu nv iu iv; omega, pk_self mu (Nat.lt_of_le_of_ne (Nat.le_of_not_lt nu) iu), z_join hu]
    · rw [if_neg hz]
