/-! REALS: the product -/
theorem md27 (a : Nat) : a % 2 ^ 27 < 2 ^ 27 := Nat.mod_lt _ (by decide)
theorem dv27 {a : Nat} (h : a < 2 ^ 53) : a / 2 ^ 27 < 2 ^ 26 := (Nat.div_lt_iff_lt_mul (by decide)).mpr (Nat.lt_of_lt_of_le h (by decide))
theorem mu27 {a b c d : Nat} (h1 : a < 2 ^ c) (h2 : b < 2 ^ d) : a * b < 2 ^ (c + d) := by rw [pw_add]; exact Nat.mul_lt_mul'' h1 h2
/-- the class -/
theorem mul_76 {a b u v : Nat} {s : Int64} {v7 v8 : Int32} (hu : u < 2 ^ 64) (hv : v < 2 ^ 64) (ha : 2 ^ 52 ≤ a ∧ a < 2 ^ 53) (hb : 2 ^ 52 ≤ b ∧ b < 2 ^ 53) (h7 : v7.toInt = zx u - zy u) (h8 : v8.toInt = zx v - zy v) :
    t_Re_product_76 (lN u) (lN v) s v7 v8 (lN a) (lN b) (lN (a % 2 ^ 27 * (b % 2 ^ 27))) = s ||| lN (pk 52 1023 (a * b) (zy u + zy v) false) := by
  have a64 : a < 2 ^ 64 := Nat.lt_trans ha.2 (by decide)
  have b64 : b < 2 ^ 64 := Nat.lt_trans hb.2 (by decide)
  have hP1 : 2 ^ 104 ≤ a * b := Nat.le_trans (by decide) (Nat.mul_le_mul ha.1 hb.1)
  have hP2 : a * b < 2 ^ 106 := mu27 ha.2 hb.2
  have eP := limbs a b
  have p1 := mu27 (md27 a) (md27 b)
  have p2 := mu27 (dv27 ha.2) (md27 b)
  have p3 := mu27 (md27 a) (dv27 hb.2)
  have p4 := mu27 (dv27 ha.2) (dv27 hb.2)
  unfold t_Re_product_76 t_Re_product_96 t_Re_product_108 t_Re_product_134
  rw [low27 a64, low27 b64, sh27 a64, sh27 b64, yL_mul, yL_mul, yL_mul, yL_add]
  obtain ⟨s0, hs0⟩ : ∃ s0, s0 = a % 2 ^ 27 * (b % 2 ^ 27) := ⟨_, rfl⟩
  obtain ⟨q, hq⟩ : ∃ q, q = a / 2 ^ 27 * (b % 2 ^ 27) + a % 2 ^ 27 * (b / 2 ^ 27) := ⟨_, rfl⟩
  obtain ⟨h, hh⟩ : ∃ h, h = a / 2 ^ 27 * (b / 2 ^ 27) := ⟨_, rfl⟩
  have hq2 : q < 2 ^ 54 := by rw [hq]; exact Nat.lt_of_lt_of_le (Nat.add_lt_add p2 p3) (by decide)
  rw [← hs0] at p1
  rw [← hh] at p4
  rw [← hs0, ← hq, ← hh] at eP ⊢
  clear p2 p3 hq hh hs0
  rw [sh27 (Nat.lt_trans p1 (by decide)), yL_add]
  obtain ⟨t, ht⟩ : ∃ t, t = q + s0 / 2 ^ 27 := ⟨_, rfl⟩
  have ht2 : t < 2 ^ 55 := by
    rw [ht]
    have : s0 / 2 ^ 27 < 2 ^ 27 := (Nat.div_lt_iff_lt_mul (by decide)).mpr p1
    exact Nat.lt_of_lt_of_le (Nat.add_lt_add hq2 this) (by decide)
  rw [← ht] at eP ⊢
  clear hq2 ht
  rw [sh27 (Nat.lt_trans ht2 (by decide)), yL_add, low27 (Nat.lt_trans ht2 (by decide)), low27 (Nat.lt_trans p1 (by decide)), yL_shl (y := 27) (k := 27) rfl (by decide)]
  obtain ⟨H, hH⟩ : ∃ H, H = h + t / 2 ^ 27 := ⟨_, rfl⟩
  obtain ⟨t0, ht0⟩ : ∃ t0, t0 = t % 2 ^ 27 := ⟨_, rfl⟩
  obtain ⟨r0, hr0⟩ : ∃ r0, r0 = s0 % 2 ^ 27 := ⟨_, rfl⟩
  have t0l : t0 < 2 ^ 27 := by rw [ht0]; exact md27 _
  have r0l : r0 < 2 ^ 27 := by rw [hr0]; exact md27 _
  have hH2 : H < 2 ^ 53 := by
    rw [hH]
    have : t / 2 ^ 27 < 2 ^ 28 := (Nat.div_lt_iff_lt_mul (by decide)).mpr ht2
    exact Nat.lt_of_lt_of_le (Nat.add_lt_add p4 this) (by decide)
  rw [← hH, ← ht0, ← hr0] at eP ⊢
  clear hH ht0 hr0 ht2 p1 p4
  have hlo : t0 * 2 ^ 27 + r0 < 2 ^ 54 := by
    have := Nat.mul_le_mul_right (2 ^ 27) (Nat.succ_le_of_lt t0l)
    rw [Nat.succ_mul] at this
    exact Nat.lt_of_lt_of_le (Nat.add_lt_add_left r0l _) (Nat.le_trans this (by decide))
  rw [g_or (k := 27) rfl r0l (Nat.lt_trans hlo (by decide))]
  obtain ⟨lo, hl⟩ : ∃ lo, lo = t0 * 2 ^ 27 + r0 := ⟨_, rfl⟩
  have eP' : a * b = H * 2 ^ 54 + lo := by rw [eP, hl, Nat.add_assoc]
  rw [← hl] at hlo ⊢
  clear eP hl t0l r0l
  have lo64 : lo < 2 ^ 64 := Nat.lt_trans hlo (by decide)
  have ed : a * b / 2 ^ 44 = H * 2 ^ 10 + lo / 2 ^ 44 := by
    rw [eP', show H * 2 ^ 54 = H * 2 ^ 10 * 2 ^ 44 by rw [Nat.mul_assoc], Nat.add_comm, Nat.add_mul_div_right _ _ (by decide), Nat.add_comm]
  have em : a * b % 2 ^ 44 = lo % 2 ^ 44 := by
    rw [eP', show H * 2 ^ 54 = H * 2 ^ 10 * 2 ^ 44 by rw [Nat.mul_assoc], Nat.add_comm, Nat.add_mul_mod_self_right]
  have q1 : 2 ^ 60 ≤ a * b / 2 ^ 44 := (Nat.le_div_iff_mul_le (by decide)).mpr (Nat.le_trans (by decide) hP1)
  have q2 : a * b / 2 ^ 44 < 2 ^ 62 := (Nat.div_lt_iff_lt_mul (by decide)).mpr (Nat.lt_of_lt_of_le hP2 (by decide))
  rw [show lN lo &&& (17592186044415 : Int64) = lN (lo % 2 ^ 44) from yL_and (k := 44) (by decide) lo64, yL_shr (y := 44) (k := 44) rfl (by decide) lo64, yL_shl (y := 10) (k := 10) rfl (by decide)]
  have ll : lo / 2 ^ 44 < 2 ^ 10 := (Nat.div_lt_iff_lt_mul (by decide)).mpr (Nat.lt_of_lt_of_le hlo (by decide))
  rw [g_or (k := 10) rfl ll (by rw [← ed]; exact Nat.lt_trans q2 (by decide)), ← ed, ← em]
  rw [lc_ne, show (0 : Int64) = lN 0 from rfl, dcg (not_congr (yL_inj (Nat.lt_trans (Nat.mod_lt _ (by decide)) (by decide)) (by decide)))]
  have hx := zx_b u
  have hy := zx_b v
  have hX := zy_b u
  have hY := zy_b v
  have e1 : (f_Re_exponent (lN u) - v7).toInt = zy u := by rw [i_subn (d_exp hu) h7 (by clear hu hv q1 q2; omega) (by clear hu hv q1 q2; omega) (by clear hu hv q1 q2; omega) (by clear hu hv q1 q2; omega)]; clear hu hv q1 q2; omega
  have e2 := i_addy e1 (d_exp hv) (by clear hu hv q1 q2; omega) (by clear hu hv q1 q2; omega)
  have e3 : (f_Re_exponent (lN u) - v7 + f_Re_exponent (lN v) - v8).toInt = zy u + zy v := by rw [i_subn e2 h8 (by clear hu hv q1 q2; omega) (by clear hu hv q1 q2; omega) (by clear hu hv q1 q2; omega) (by clear hu hv q1 q2; omega)]; clear hu hv q1 q2; omega
  have e4 : (f_Re_exponent (lN u) - v7 + f_Re_exponent (lN v) - v8 + (44 : Int32)).toInt = zy u + zy v + ((44 : Nat) : Int) := i_addy e3 (show ((44 : Int32).toInt) = 44 from rfl) (by clear hu hv q1 q2; omega) (by clear hu hv q1 q2; omega)
  have hP0 : a * b ≠ 0 := Nat.ne_of_gt (Nat.lt_of_lt_of_le (by decide) hP1)
  have hst : ∀ w : Int32, (w.toInt = 0 ∧ a * b % 2 ^ 44 = 0 ∨ w = 1 ∧ ¬ a * b % 2 ^ 44 = 0) → lN (a * b / 2 ^ 44) ||| Int32.toInt64 w = lN (stk (a * b) 44) := fun w hw => by
    have q64 : a * b / 2 ^ 44 < 2 ^ 64 := Nat.lt_trans q2 (by decide)
    unfold stk
    rcases hw with ⟨w0, z⟩ | ⟨w0, z⟩
    · rw [if_pos z, show w = 0 from Int32.toInt_inj.mp w0, show Int32.toInt64 (0 : Int32) = lN 0 from by decide, wb_or q64 (by decide), Nat.or_zero]
    · rw [if_neg z, w0, show Int32.toInt64 (1 : Int32) = lN 1 from by decide, wb_or q64 (by decide), stk_or]
  have hfin : f_Re_rounded (lN (stk (a * b) 44)) (f_Re_exponent (lN u) - v7 + f_Re_exponent (lN v) - v8 + (44 : Int32)) (52 : Int32) (1023 : Int32) = lN (pk 52 1023 (a * b) (zy u + zy v) false) := by
    rw [r52 (stk_n0 hP0) (by
      unfold stk
      split
      · exact Nat.lt_trans q2 (by decide)
      · have h1 : a * b / 2 ^ 44 / 2 * 2 ≤ a * b / 2 ^ 44 := Nat.div_mul_le_self _ _
        exact Nat.lt_of_lt_of_le (Nat.add_lt_add_right (Nat.lt_of_le_of_lt h1 q2) 1) (by decide)) (by rw [e4]; clear hu hv q1 q2; omega), e4, pk_stk hP0 (fun _ => Nat.le_trans (by decide) q1)]
  by_cases hz : a * b % 2 ^ 44 = 0
  · rw [cd_f (fun z => z hz), hst 0 (Or.inl ⟨rfl, hz⟩), hfin]
  · rw [cd_t hz, hst 1 (Or.inr ⟨rfl, hz⟩), hfin]
/-- the reference -/
theorem mul_129 {a b : Nat} {v4 v9 : Int32} {E : Int} (ha : 2 ^ 52 ≤ a ∧ a < 2 ^ 53) (hb : 2 ^ 52 ≤ b ∧ b < 2 ^ 53) (h9 : v9.toInt = E) (hE : -10000 ≤ E ∧ E ≤ 10000) (n : Nat) :
    t_M_times_81 (n + 1) v4 (lN a) (lN b) v9 = lN (pk 52 1023 (a * b) E false) ||| (if v4.toInt = 0 then 0 else -9223372036854775808) := by
  have a64 : a < 2 ^ 64 := Nat.lt_trans ha.2 (by decide)
  have b64 : b < 2 ^ 64 := Nat.lt_trans hb.2 (by decide)
  have hP1 : 2 ^ 104 ≤ a * b := Nat.le_trans (by decide) (Nat.mul_le_mul ha.1 hb.1)
  have hP2 : a * b < 2 ^ 106 := mu27 ha.2 hb.2
  have eP := limbs a b
  have p1 := mu27 (md27 a) (md27 b)
  have p2 := mu27 (dv27 ha.2) (md27 b)
  have p3 := mu27 (md27 a) (dv27 hb.2)
  have p4 := mu27 (dv27 ha.2) (dv27 hb.2)
  rw [t_M_times_81, l52 (Nat.lt_trans hb.2 (by decide)), cd_t hb.1, show (134217728 : Int64) - (1 : Int64) = 134217727 from by decide]
  unfold t_M_times_129 t_M_times_141 t_M_times_161 t_M_times_164
  rw [show (134217728 : Int64) - (1 : Int64) = 134217727 from by decide]
  rw [low27 a64, low27 b64, sh27 a64, sh27 b64, yL_mul, yL_mul, yL_mul, yL_mul, yL_add]
  obtain ⟨s0, hs0⟩ : ∃ s0, s0 = a % 2 ^ 27 * (b % 2 ^ 27) := ⟨_, rfl⟩
  obtain ⟨q, hq⟩ : ∃ q, q = a / 2 ^ 27 * (b % 2 ^ 27) + a % 2 ^ 27 * (b / 2 ^ 27) := ⟨_, rfl⟩
  obtain ⟨h, hh⟩ : ∃ h, h = a / 2 ^ 27 * (b / 2 ^ 27) := ⟨_, rfl⟩
  have hq2 : q < 2 ^ 54 := by rw [hq]; exact Nat.lt_of_lt_of_le (Nat.add_lt_add p2 p3) (by decide)
  rw [← hs0] at p1
  rw [← hh] at p4
  rw [← hs0, ← hq, ← hh] at eP ⊢
  clear p2 p3 hq hh hs0
  rw [sh27 (Nat.lt_trans p1 (by decide)), yL_add]
  obtain ⟨t, ht⟩ : ∃ t, t = q + s0 / 2 ^ 27 := ⟨_, rfl⟩
  have ht2 : t < 2 ^ 55 := by
    rw [ht]
    have : s0 / 2 ^ 27 < 2 ^ 27 := (Nat.div_lt_iff_lt_mul (by decide)).mpr p1
    exact Nat.lt_of_lt_of_le (Nat.add_lt_add hq2 this) (by decide)
  rw [← ht] at eP ⊢
  clear hq2 ht
  rw [sh27 (Nat.lt_trans ht2 (by decide)), yL_add, low27 (Nat.lt_trans ht2 (by decide)), low27 (Nat.lt_trans p1 (by decide))]
  obtain ⟨H, hH⟩ : ∃ H, H = h + t / 2 ^ 27 := ⟨_, rfl⟩
  obtain ⟨t0, ht0⟩ : ∃ t0, t0 = t % 2 ^ 27 := ⟨_, rfl⟩
  obtain ⟨r0, hr0⟩ : ∃ r0, r0 = s0 % 2 ^ 27 := ⟨_, rfl⟩
  have t0l : t0 < 2 ^ 27 := by rw [ht0]; exact md27 _
  have r0l : r0 < 2 ^ 27 := by rw [hr0]; exact md27 _
  rw [← hH, ← ht0, ← hr0] at eP ⊢
  clear hH ht0 hr0 ht2 p1 p4
  have t64 : t0 < 2 ^ 64 := Nat.lt_trans t0l (by decide)
  have t19 : t0 % 2 ^ 19 < 2 ^ 19 := Nat.mod_lt _ (by decide)
  have et := Nat.div_add_mod' t0 (2 ^ 19)
  have eP' : a * b = t0 % 2 ^ 19 * 2 ^ 27 + r0 + (H * 2 ^ 8 + t0 / 2 ^ 19) * 2 ^ 46 := by
    have f1 : (H * 2 ^ 8 + t0 / 2 ^ 19) * 2 ^ 46 = H * 2 ^ 54 + t0 / 2 ^ 19 * 2 ^ 19 * 2 ^ 27 := by rw [Nat.add_mul, Nat.mul_assoc, Nat.mul_assoc (t0 / 2 ^ 19), show 2 ^ 8 * 2 ^ 46 = 2 ^ 54 by decide, show 2 ^ 19 * 2 ^ 27 = 2 ^ 46 by decide]
    have f2 : t0 * 2 ^ 27 = t0 / 2 ^ 19 * 2 ^ 19 * 2 ^ 27 + t0 % 2 ^ 19 * 2 ^ 27 := by rw [← Nat.add_mul, et]
    rw [eP, f1, f2]
    clear eP hP1 hP2 ha hb a64 b64 t0l r0l t64 t19 et f1 f2
    obtain ⟨X, hX⟩ : ∃ X, X = H * 2 ^ 54 := ⟨_, rfl⟩
    obtain ⟨Y, hY⟩ : ∃ Y, Y = t0 / 2 ^ 19 * 2 ^ 19 * 2 ^ 27 := ⟨_, rfl⟩
    obtain ⟨Z, hZ⟩ : ∃ Z, Z = t0 % 2 ^ 19 * 2 ^ 27 := ⟨_, rfl⟩
    rw [← hX, ← hY, ← hZ]
    clear hX hY hZ
    omega
  have lt46 : t0 % 2 ^ 19 * 2 ^ 27 + r0 < 2 ^ 46 := by
    have := Nat.mul_le_mul_right (2 ^ 27) (Nat.succ_le_of_lt t19)
    rw [Nat.succ_mul] at this
    exact Nat.lt_of_lt_of_le (Nat.add_lt_add_left r0l _) (Nat.le_trans this (by decide))
  have ed : a * b / 2 ^ 46 = H * 2 ^ 8 + t0 / 2 ^ 19 := by
    rw [eP', Nat.add_mul_div_right _ _ (by decide), Nat.div_eq_of_lt lt46, Nat.zero_add]
  have em : a * b % 2 ^ 46 = t0 % 2 ^ 19 * 2 ^ 27 + r0 := by
    rw [eP', Nat.add_mul_mod_self_right, Nat.mod_eq_of_lt lt46]
  have q1 : 2 ^ 58 ≤ a * b / 2 ^ 46 := (Nat.le_div_iff_mul_le (by decide)).mpr (Nat.le_trans (by decide) hP1)
  have q2 : a * b / 2 ^ 46 < 2 ^ 60 := (Nat.div_lt_iff_lt_mul (by decide)).mpr (Nat.lt_of_lt_of_le hP2 (by decide))
  rw [show lN t0 &&& (524287 : Int64) = lN (t0 % 2 ^ 19) from yL_and (k := 19) (by decide) t64, yL_shr (y := 19) (k := 19) rfl (by decide) t64, yL_shl (y := 8) (k := 8) rfl (by decide)]
  have ll : t0 / 2 ^ 19 < 2 ^ 8 := (Nat.div_lt_iff_lt_mul (by decide)).mpr (Nat.lt_of_lt_of_le t0l (by decide))
  rw [g_or (k := 8) rfl ll (by rw [← ed]; exact Nat.lt_trans q2 (by decide)), ← ed]
  rw [lc_ne, lc_eq, show (0 : Int64) = lN 0 from rfl, dcg (not_congr (yL_inj (Nat.lt_trans t19 (by decide)) (by decide))), dcg (yL_inj (Nat.lt_trans r0l (by decide)) (by decide))]
  have hP0 : a * b ≠ 0 := Nat.ne_of_gt (Nat.lt_of_lt_of_le (by decide) hP1)
  have e4 : (v9 + (46 : Int32)).toInt = E + ((46 : Nat) : Int) := i_addy h9 (show ((46 : Int32).toInt) = 46 from rfl) (by clear q1 q2; omega) (by clear q1 q2; omega)
  have hfin : ∀ w : Int32, decide (¬ w.toInt = 0) = decide (a * b % 2 ^ 46 ≠ 0) → f_M_signed v4 (lN (a * b / 2 ^ 46)) (v9 + (46 : Int32)) w = lN (pk 52 1023 (a * b) E false) ||| (if v4.toInt = 0 then 0 else -9223372036854775808) := fun w hw => by
    rw [s52 (Nat.ne_of_gt (Nat.lt_of_lt_of_le (by decide) q1)) (Nat.lt_trans q2 (by decide)) (by rw [e4]; clear q1 q2; omega), e4, hw, pk_flg hP0 (fun _ => Nat.le_trans (by decide) q1)]
  have n0 : (¬ (t0 % 2 ^ 19 = 0 ∧ r0 = 0)) → decide (¬ (1 : Int32).toInt = 0) = decide (a * b % 2 ^ 46 ≠ 0) := fun z => by
    rw [show decide (a * b % 2 ^ 46 ≠ 0) = true from decide_eq_true (by
      rw [em]
      intro y
      have := Nat.add_eq_zero_iff.mp y
      exact z ⟨(Nat.mul_eq_zero.mp this.1).resolve_right (by decide), this.2⟩)]
    decide
  by_cases h1 : t0 % 2 ^ 19 = 0
  · rw [cd_f (fun z => z h1)]
    by_cases h2 : r0 = 0
    · rw [cd_t h2]
      exact hfin 0 (by
        rw [show decide (a * b % 2 ^ 46 ≠ 0) = false from decide_eq_false (fun z => z (by rw [em, h1, h2, Nat.zero_mul]))]
        decide)
    · rw [cd_f h2]
      exact hfin 1 (n0 (fun z => h2 z.2))
  · rw [cd_t h1]
    exact hfin 1 (n0 (fun z => h1 z.1))
theorem sx_and {u v : Nat} (hu : u < 2 ^ 64) (hv : v < 2 ^ 64) : (lN u ^^^ lN v) &&& (-9223372036854775808) = SG (sn u != sn v) := by
  have h := sn_xor hu hv
  rw [lN_xor] at h ⊢
  have hx : u ^^^ v < 2 ^ 64 := Nat.xor_lt_two_pow hu hv
  have g : sn (u ^^^ v) = (sn u != sn v) := by
    rw [← h, lc_lt, show ((0 : Int64).toInt) = 0 from rfl]
    exact (dcg (d_neg hx)).symm
  rw [sgn_and hx, g]
theorem cc5 {α : Type} (f : Int32 → α) (a b : Bool) : cond (!a) (cond (!b) (cond (cn2 .eq 0 0) (f 0) (f 1)) (cond (cn2 .eq 0 1) (f 0) (f 1))) (cond (!b) (cond (cn2 .eq 1 0) (f 0) (f 1)) (cond (cn2 .eq 1 1) (f 0) (f 1))) = f (cond (a != b) 1 0) := by cases a <;> cases b <;> rfl
theorem sgx (b : Bool) : (if (cond b 1 0 : Int32).toInt = 0 then (0 : Int64) else -9223372036854775808) = SG b := sg_i b
theorem sg_inf (b : Bool) : cond (cn1 .eq (cond b 1 0 : Int32)) (9218868437227405312 : Int64) (-4503599627370496) = SG b ||| 9218868437227405312 := by cases b <;> decide
theorem sg_0 (b : Bool) : cond (cn1 .eq (cond b 1 0 : Int32)) (0 : Int64) (-9223372036854775808) = SG b := by cases b <;> decide
theorem mul_f {u v : Nat} {b : Bool} (hu : u < 2 ^ 64) (hv : v < 2 ^ 64) (h0 : zm u ≠ 0) (h1 : zm v ≠ 0) : t_M_times_71 53 (cond b 1 0) (lN (zm u)) (lN (zm v)) (f_M_power (lN u) + f_M_power (lN v)) = lN (pk 52 1023 (zn u * zn v) (zy u + zy v) false) ||| SG b := by
  have hx := zx_b u
  have hy := zx_b v
  have hX := zy_b u
  have hY := zy_b v
  have b1 := nb_1 (zm u)
  have b2 := nb_1 (zm v)
  have e : (f_M_power (lN u) + f_M_power (lN v)).toInt = zx u + zx v := i_addy (d_pow hu) (d_pow hv) (by clear hu hv; omega) (by clear hu hv; omega)
  obtain ⟨e1, q1, q2⟩ := nrm_loop (fun n a x => t_M_times_71 n (cond b 1 0) a (lN (zm v)) x) (fun a x => t_M_times_81 53 (cond b 1 0) a (lN (zm v)) x) (-1) (Or.inr rfl) (fun _ _ _ => rfl) 53 (zm u) _ _ h0 (zm_lt u) (by clear hu hv; omega) e (by clear hu hv; omega) (by clear hu hv; omega)
  obtain ⟨e2, q3, q4⟩ := nrm_loop (fun n a x => t_M_times_81 n (cond b 1 0) (lN (zn u)) a x) (fun a x => t_M_times_81 1 (cond b 1 0) (lN (zn u)) a x) (-1) (Or.inr rfl) (fun n a x => by
    show t_M_times_81 (n + 1) _ _ a x = _
    rw [t_M_times_81]
    by_cases h : cn1 .ge (lg_cmp a (4503599627370496 : Int64)) = true
    · rw [h, cond_true, cond_true]
      show _ = t_M_times_81 (0 + 1) _ _ a x
      rw [t_M_times_81, h, cond_true]
    · rw [Bool.not_eq_true] at h
      rw [h, cond_false, cond_false]) 53 (zm v) e1 _ h1 (zm_lt v) (by clear hu hv; omega) q1 (by clear hu hv; omega) (by clear hu hv; omega)
  have e3 : e2.toInt = zy u + zy v := by
    rw [q3]
    unfold zy zg
    clear hu hv q1 q2 q3 q4
    omega
  refine Eq.trans q2 (Eq.trans q4 ?_)
  show t_M_times_81 (0 + 1) _ _ (lN (zn v)) e2 = _
  rw [mul_129 (zn_b h0) (zn_b h1) e3 (by clear hu hv q1 q2 q3 q4; omega), sgx]
theorem product_times (x y : Int64) : f_Re_product x y = f_M_times x y := by
  obtain ⟨u, hu, rfl⟩ := d_of x
  obtain ⟨v, hv, rfl⟩ := d_of y
  unfold f_Re_product f_M_times t_M_times_15 t_M_times_22
  rw [d_nan hu, d_nan hv, d_no hu, d_no hv, cn1_ne_b2i, cn1_eq_b2i]
  by_cases nu : 2047 * 2 ^ 52 < zs u
  · rw [cd_t nu, cd_t nu]
  rw [cd_f nu, cd_f nu]
  by_cases nv : 2047 * 2 ^ 52 < zs v
  · rw [decide_eq_true nv, Bool.not_true, cond_false, cond_false]
  rw [decide_eq_false nv, Bool.not_false, cond_true, cond_true, sn_ge hu, sn_ge hv, cc5 (fun z => t_M_times_26 (lN u) (lN v) z) (sn u) (sn v), sx_and hu hv]
  generalize (sn u != sn v) = b
  unfold t_Re_product_24 t_Re_product_27 t_Re_product_38 t_M_times_26 t_M_times_33 t_M_times_53
  rw [show f_Re_size (lN u) = lN (zs u) from d_size hu, show f_Re_size (lN v) = lN (zs v) from d_size hv, d_inf hu, d_inf hv, d_zero hu, d_zero hv, cn1_ne_b2i, cn1_eq_b2i, cn1_ne_b2i, cn1_eq_b2i, lc_eq, lc_ne, lc_eq, lc_ne, show (9218868437227405312 : Int64) = lN (2047 * 2 ^ 52) from by decide, show (0 : Int64) = lN 0 from rfl, dcg (yL_inj (zs_64 u) (by decide)), dcg (not_congr (yL_inj (zs_64 v) (by decide))), dcg (yL_inj (zs_64 u) (by decide)), dcg (not_congr (yL_inj (zs_64 v) (by decide))), show lN (2047 * 2 ^ 52) = (9218868437227405312 : Int64) from by decide, show lN 0 = (0 : Int64) from rfl, sg_inf, sg_0]
  rw [show cn1 .eq (0 : Int32) = true from rfl, show cn1 .eq (1 : Int32) = false from rfl, cond_true, cond_false, cond_true, cond_false]
  by_cases zu : zs u = 0
  · rw [cd_t zu, decide_eq_true zu, cond_true, cond_true]
    by_cases iv : zs v = 2047 * 2 ^ 52
    · rw [show decide (¬ zs v = 2047 * 2 ^ 52) = false from decide_eq_false (fun z => z iv), decide_eq_true iv, Bool.not_true, cond_false]
    · rw [show decide (¬ zs v = 2047 * 2 ^ 52) = true from decide_eq_true iv, decide_eq_false iv, Bool.not_false, cond_true]
  · rw [cd_f zu, decide_eq_false zu, cond_false, cond_false]
    by_cases zv : zs v = 0
    · rw [show decide (¬ zs v = 0) = false from decide_eq_false (fun z => z zv), decide_eq_true zv, Bool.not_true, cond_false, cond_false, cond_false]
      have iv : ¬ zs v = 2047 * 2 ^ 52 := by rw [zv]; decide
      rw [show decide (¬ zs v = 2047 * 2 ^ 52) = true from decide_eq_true iv, decide_eq_false iv, Bool.not_false, cond_true]
    · rw [show decide (¬ zs v = 0) = true from decide_eq_true zv, decide_eq_false zv, Bool.not_false, cond_true, cond_true, cond_true]
      by_cases iu : zs u = 2047 * 2 ^ 52
      · rw [cd_t iu, cd_t iu]
      · rw [cd_f iu, cd_f iu]
        by_cases iv : zs v = 2047 * 2 ^ 52
        · rw [show decide (¬ zs v = 2047 * 2 ^ 52) = false from decide_eq_false (fun z => z iv), decide_eq_true iv, Bool.not_true, cond_false, cond_false]
        · rw [show decide (¬ zs v = 2047 * 2 ^ 52) = true from decide_eq_true iv, decide_eq_false iv, Bool.not_false, cond_true, cond_true]
          have mu := z_m1 zu
          have mv := z_m1 zv
          have gu := zg_lt (u := u)
          have gv := zg_lt (u := v)
          rw [d_manM hu, d_manM hv, d_manR hu, d_manR hv, mul_f hu hv mu mv, d_zn mu, d_zn mv, low27 (Nat.lt_trans (zn_b mu).2 (by decide)), low27 (Nat.lt_trans (zn_b mv).2 (by decide)), yL_mul, mul_76 hu hv (zn_b mu) (zn_b mv) (by rw [d_gap mu]; unfold zy; clear hu hv nu nv; omega) (by rw [d_gap mv]; unfold zy; clear hu hv nu nv; omega), Int64.or_comm]
