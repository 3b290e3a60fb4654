/-! REALS: the rest of OP 8; ints; floats -/
theorem ev_top {u : Nat} {h : Int32} (hu : u < 2 ^ 64) (h1 : 1075 ≤ ze u ∨ zs u = 0) : f_M_even (lN u) h = lN u := by
  unfold f_M_even
  rw [d_no hu, d_inf hu, d_zero hu, cn1_ne_b2i, cn1_ne_b2i, cn1_ne_b2i]
  by_cases a1 : 2047 * 2 ^ 52 < zs u
  · rw [dt a1, cond_true]
  rw [df a1, cond_false]
  by_cases a2 : zs u = 2047 * 2 ^ 52
  · rw [dt a2, cond_true]
  rw [df a2, cond_false]
  by_cases a3 : zs u = 0
  · rw [dt a3, cond_true]
  rw [df a3, cond_false, c1_lt, d_pow hu, cd_f]
  have h2 : 1075 ≤ ze u := h1.resolve_right a3
  unfold zx
  clear hu a1 a2 a3 h1
  rw [if_neg (by omega)]
  omega
theorem whole_even {h : Int32} {x : Int64} (hk : KP x) (hh : h = 1 ∨ h = 2 ∨ h = 3) : f_Re_whole h x = f_M_even x h := by
  obtain ⟨u, hu, rfl⟩ := d_of x
  rw [wh_any hu hh]
  by_cases a1 : 1075 ≤ ze u ∨ zs u = 0
  · rw [wh_top hu a1, ev_top hu a1]
    exact hk
  have b1 : ze u < 1075 := Nat.lt_of_not_le (fun z => a1 (Or.inl z))
  have b2 : ¬ zs u = 0 := fun z => a1 (Or.inr z)
  by_cases a2 : ze u < 1023
  · rw [wh_low hu a2 b2 rfl, ev_low hu a2 b2 hh]
    exact Int64.or_comm _ _
  · rw [wh_mid hu (Nat.le_of_not_lt a2) b1 rfl hh rfl, ev_mid hu (Nat.le_of_not_lt a2) b1 rfl hh]
theorem kp_one (b : Bool) : KP (lN (1023 * 2 ^ 52) ||| SG b) := by
  unfold KP
  cases b <;> decide +kernel
theorem kp_whole {h : Int32} {x : Int64} (hk : KP x) (hh : h = 1 ∨ h = 2 ∨ h = 3) : KP (f_Re_whole h x) := by
  obtain ⟨u, hu, rfl⟩ := d_of x
  rw [wh_any hu hh]
  by_cases a1 : 1075 ≤ ze u ∨ zs u = 0
  · rw [wh_top hu a1]
    exact (show f_Re_plain (lN u) = lN u from hk).symm ▸ hk
  have b1 : ze u < 1075 := Nat.lt_of_not_le (fun z => a1 (Or.inl z))
  have b2 : ¬ zs u = 0 := fun z => a1 (Or.inr z)
  by_cases a2 : ze u < 1023
  · rw [wh_low hu a2 b2 rfl, Int64.or_comm]
    obtain ⟨bb, hbb⟩ : ∃ bb : Bool, bb = (if h = 3 then decide (1022 * 2 ^ 52 < zs u) else upB h (sn u) 0 0 0) := ⟨_, rfl⟩
    rw [← hbb]
    cases bb
    · rw [if_neg (by decide), Int64.zero_or]
      exact kp_0
    · rw [if_pos rfl]
      exact kp_one _
  · rw [wh_mid hu (Nat.le_of_not_lt a2) b1 rfl hh rfl]
    obtain ⟨k, hk0⟩ : ∃ k, k = 1075 - ze u := ⟨_, rfl⟩
    rw [← hk0]
    obtain ⟨q, hq⟩ : ∃ q, q = (if u % 2 ^ k ≠ 0 ∧ upB h (sn u) (u / 2 ^ k) (u % 2 ^ k) k = true then 2 ^ k else 0) := ⟨_, rfl⟩
    rw [← hq]
    have hkp : (2 : Nat) ^ k ≤ 2 ^ 52 := Nat.pow_le_pow_right (by decide) (by clear hu; omega)
    have hq2 : q ≤ 2 ^ 52 := by rw [hq]; split; exact hkp; exact Nat.zero_le _
    have ed := z_dec hu
    have hz : zs u < 1075 * 2 ^ 52 := (Nat.div_lt_iff_lt_mul (by decide)).mp b1
    have hm : u % 2 ^ k ≤ zs u := by
      have e1 : u % 2 ^ k = zs u % 2 ^ k := by
        unfold zs
        exact (Nat.mod_mod_of_dvd u (Nat.pow_dvd_pow 2 (by clear hu hz; omega))).symm
      rw [e1]
      exact Nat.mod_le _ _
    have ew : u - u % 2 ^ k + q = (zs u - u % 2 ^ k + q) + (if sn u = true then 2 ^ 63 else 0) := by
      obtain ⟨C, hC⟩ : ∃ C, C = (if sn u = true then 2 ^ 63 else 0) := ⟨_, rfl⟩
      rw [← hC] at ed ⊢
      obtain ⟨z, hz9⟩ : ∃ z, z = zs u := ⟨_, rfl⟩
      rw [← hz9] at ed hm ⊢
      obtain ⟨m, hm9⟩ : ∃ m, m = u % 2 ^ k := ⟨_, rfl⟩
      rw [← hm9] at hm ⊢
      clear hu hz hz9 hm9 hC hq hq2 hkp b1 b2 a2
      omega
    have hl : zs u - u % 2 ^ k + q ≤ 2047 * 2 ^ 52 := by
      refine Nat.le_trans (Nat.add_le_add (Nat.le_trans (Nat.sub_le _ _) (Nat.le_of_lt hz)) hq2) (by decide)
    have := kp_sg (b := sn u) hl
    rw [sg_add (Nat.lt_of_le_of_lt hl (by decide)), ← ew] at this
    exact this
/-! ints -/
theorem abs_i (n : Int32) : ∃ m : Nat, m ≤ 2147483648 ∧ (n.toInt = (m : Int) ∨ (n.toInt = -(m : Int) ∧ 0 < m)) := by
  have h1 := Int32.toInt_lt n
  have h2 := Int32.le_toInt n
  by_cases h : 0 ≤ n.toInt
  · exact ⟨n.toInt.toNat, by omega, Or.inl (by omega)⟩
  · exact ⟨(-n.toInt).toNat, by omega, Or.inr ⟨by omega, by omega⟩⟩
theorem m63 {m : Nat} (h : m ≤ 2147483648) : m < 2 ^ 63 := Nat.lt_of_le_of_lt h (by decide)
theorem i64_p {n : Int32} {m : Nat} (h : n.toInt = (m : Int)) (hm : m ≤ 2147483648) : Int32.toInt64 n = lN m := Int64.toInt_inj.mp (by rw [Int32.toInt_toInt64, h, yL_i (m63 hm)])
theorem i64_m {n : Int32} {m : Nat} (h : n.toInt = -(m : Int)) (hm : m ≤ 2147483648) : -(Int32.toInt64 n) = lN m := Int64.toInt_inj.mp (by
  rw [Int64.toInt_neg, Int32.toInt_toInt64, h, yL_i (m63 hm), Int.neg_neg]
  exact Int.bmod_eq_of_le (by omega) (by omega))
theorem rnd0 (e a b : Int32) : f_Re_rounded (0 : Int64) e a b = 0 := rfl
theorem ofInt_realOf (n : Int32) : f_Re_ofInt n = f_M_realOf (Int32.toInt64 n) := by
  obtain ⟨m, hm, h | ⟨h, h0⟩⟩ := abs_i n
  · have e := i64_p h hm
    have e1 : cn1 .ge n = true := by rw [c1_ge, h]; exact dt (Int.natCast_nonneg m)
    unfold f_Re_ofInt f_M_realOf t_Re_ofInt_5 t_M_realOf_8
    rw [e1, e, lc_ge, yL_i (m63 hm), show ((0 : Int64).toInt) = 0 from rfl, dt (Int.natCast_nonneg m), cond_true, cond_true, cond_true, lc_ne]
    by_cases z : m = 0
    · subst z
      rfl
    · have z2 : ¬ lN m = (0 : Int64) := fun y => z ((yL_inj (lt64 (m63 hm)) (by decide)).mp y)
      have z3 : (0 : Int64) < lN m := by rw [Int64.lt_iff_toInt_lt, yL_i (m63 hm)]; exact Int.natCast_pos.mpr (Nat.pos_of_ne_zero z)
      unfold t_M_realOf_22
      rw [if_pos z3, dt z2, cond_true, r52 z (m63 hm) (by decide), s52 z (m63 hm) (by decide), if_pos (show ((0 : Int32).toInt) = 0 from rfl), Int64.zero_or, Int64.or_zero]
      rfl
  · have e := i64_m h hm
    have e1 : cn1 .ge n = false := by rw [c1_ge, h]; exact df (by omega)
    have e2 : (Int32.toInt64 n).toInt = -(m : Int) := by rw [Int32.toInt_toInt64, h]
    have z : m ≠ 0 := by omega
    have z2 : ¬ lN m = (0 : Int64) := fun y => z ((yL_inj (lt64 (m63 hm)) (by decide)).mp y)
    have z3 : ¬ (0 : Int64) < Int32.toInt64 n := by rw [Int64.lt_iff_toInt_lt, e2, show ((0 : Int64).toInt) = 0 from rfl]; omega
    unfold f_Re_ofInt f_M_realOf t_Re_ofInt_5 t_M_realOf_8 t_M_realOf_22
    rw [e1, cond_false, lc_ge, e2, show ((0 : Int64).toInt) = 0 from rfl, df (by omega), cond_false, cond_false, lc_ne, if_neg z3, e, dt z2, cond_true, r52 z (m63 hm) (by decide), s52 z (m63 hm) (by decide), if_neg (by decide), Int64.or_comm]
    rfl
theorem kp_ofInt (n : Int32) : KP (f_Re_ofInt n) := by
  obtain ⟨m, hm, h | ⟨h, h0⟩⟩ := abs_i n
  · have e := i64_p h hm
    have e1 : cn1 .ge n = true := by rw [c1_ge, h]; exact dt (Int.natCast_nonneg m)
    unfold f_Re_ofInt t_Re_ofInt_5
    rw [e1, e, cond_true]
    by_cases z : m = 0
    · subst z
      unfold KP
      decide +kernel
    · have z3 : (0 : Int64) < lN m := by rw [Int64.lt_iff_toInt_lt, yL_i (m63 hm)]; exact Int.natCast_pos.mpr (Nat.pos_of_ne_zero z)
      rw [if_pos z3, r52 z (m63 hm) (by decide), Int64.or_comm]
      exact kp_pk (b := false) z
  · have e := i64_m h hm
    have e1 : cn1 .ge n = false := by rw [c1_ge, h]; exact df (by omega)
    have e2 : (Int32.toInt64 n).toInt = -(m : Int) := by rw [Int32.toInt_toInt64, h]
    have z : m ≠ 0 := by omega
    have z3 : ¬ (0 : Int64) < Int32.toInt64 n := by rw [Int64.lt_iff_toInt_lt, e2, show ((0 : Int64).toInt) = 0 from rfl]; omega
    unfold f_Re_ofInt t_Re_ofInt_5
    rw [e1, cond_false, if_neg z3, e, r52 z (m63 hm) (by decide), Int64.or_comm]
    exact kp_pk (b := true) z
/-! the step -/
theorem pk_one {F : Nat} (h1 : 1 ≤ F) (h2 : F ≤ 2046) : pk 52 1023 1 ((F : Int) - 1075) false = if F ≤ 52 then 2 ^ (F - 1) else (F - 52) * 2 ^ 52 := by
  have hn : nb 1 = 1 := by decide
  unfold pk
  rw [hn]
  rw [if_neg (by omega)]
  by_cases h : F ≤ 52
  · rw [if_pos (show (F : Int) - 1075 + ((1 : Nat) : Int) - 1 + ((1023 : Nat) : Int) < 1 by omega), if_pos (by omega), if_pos h]
    rw [show ((F : Int) - 1075 + ((1 : Nat) : Int) - 1 + ((1023 : Nat) : Int) - 1).toNat = 0 by omega, Nat.zero_mul, Nat.zero_add, Nat.one_mul]
    congr 1
    omega
  · rw [if_neg (show ¬ (F : Int) - 1075 + ((1 : Nat) : Int) - 1 + ((1023 : Nat) : Int) < 1 by omega), if_pos (by decide), if_neg h]
    rw [show ((F : Int) - 1075 + ((1 : Nat) : Int) - 1 + ((1023 : Nat) : Int) - 1).toNat = F - 53 by omega]
    rw [show F - 52 = (F - 53) + 1 by omega, Nat.add_mul]
    rfl
theorem step_fin {u : Nat} (hu : u < 2 ^ 64) (hf : zs u < 2047 * 2 ^ 52) : ∃ F : Nat, 1 ≤ F ∧ F ≤ 2046 ∧ zx u = (F : Int) - 1075 ∧ (if f_Re_field (lN u) < 1 then (1 : Int32) else f_Re_field (lN u)).toInt = (F : Int) := by
  have hz : ze u < 2047 := (Nat.div_lt_iff_lt_mul (by decide)).mpr hf
  have hd := d_fld hu
  unfold zx
  clear hf
  by_cases h : ze u = 0
  · refine ⟨1, by decide, by decide, by rw [if_pos h]; rfl, ?_⟩
    rw [if_pos (by rw [Int32.lt_iff_toInt_lt, hd, h]; decide)]
    rfl
  · refine ⟨ze u, by omega, by omega, by rw [if_neg h], ?_⟩
    rw [if_neg (by rw [Int32.lt_iff_toInt_lt, hd, show ((1 : Int32).toInt) = 1 from rfl]; clear hu; omega)]
    exact hd
theorem step_step {x : Int64} (hk : KP x) : f_Re_step x = f_M_step x ∧ KP (f_Re_step x) := by
  obtain ⟨u, hu, rfl⟩ := d_of x
  unfold f_Re_step f_M_step
  rw [show f_Re_size (lN u) = lN (zs u) from d_size hu, lc_lt, yL_i (zs_lt u), show ((9218868437227405312 : Int64).toInt) = ((2047 * 2 ^ 52 : Nat) : Int) from by decide, dcg Int.ofNat_lt]
  by_cases hf : zs u < 2047 * 2 ^ 52
  · rw [dt hf, cond_true, d_no hu, d_inf hu, cn1_eq_b2i, cn1_eq_b2i, df (Nat.lt_asymm hf), df (Nat.ne_of_lt hf), Bool.not_false, cond_true, cond_true]
    obtain ⟨F, h1, h2, h3, h4⟩ := step_fin hu hf
    have hp := d_pow hu
    rw [show (1 : Int64) = lN 1 from rfl, packed_pk (p := 52) (B := 1023) rfl rfl (Or.inl ⟨rfl, rfl⟩) (by decide) (by decide) (by rw [hp, h3]; clear hu hf; omega), hp, h3, show decide (¬ ((0 : Int32).toInt = 0)) = false from by decide, pk_one h1 h2, c2_le, h4, show ((52 : Int32).toInt) = 52 from rfl]
    have key : cond (decide ((F : Int) ≤ 52)) (lN 1 <<< (Int32.toInt64 ((if f_Re_field (lN u) < 1 then (1 : Int32) else f_Re_field (lN u)) - 1) &&& 63)) ((Int32.toInt64 ((if f_Re_field (lN u) < 1 then (1 : Int32) else f_Re_field (lN u)) - 52)) <<< (Int32.toInt64 (52 : Int32) &&& 63)) = lN (if F ≤ 52 then 2 ^ (F - 1) else (F - 52) * 2 ^ 52) := by
      clear hu hf hk h3 hp
      by_cases h : F ≤ 52
      · rw [cd_t (by omega), if_pos h, yL_shl (k := F - 1) (by rw [i_subn h4 (show ((1 : Int32).toInt) = 1 from rfl) (by omega) (by omega) (by omega) (by omega)]; omega) (by omega), Nat.one_mul]
      · rw [cd_f (by omega), if_neg h, i64_of (k := F - 52) (by rw [i_subn h4 (show ((52 : Int32).toInt) = 52 from rfl) (by omega) (by omega) (by omega) (by omega)]; omega) (by omega), yL_shl (k := 52) rfl (by decide)]
    refine ⟨key, ?_⟩
    rw [key]
    refine kp_of ?_ ?_
    · clear hu hf hk key h3 hp
      split
      · exact Nat.pow_lt_pow_right (by decide) (by omega)
      · exact Nat.lt_of_le_of_lt (Nat.mul_le_mul_right _ (show F - 52 ≤ 2000 by omega)) (by decide)
    · clear hu hf hk key h3 hp
      refine Nat.le_trans (Nat.mod_le _ _) ?_
      split
      · exact Nat.le_trans (Nat.pow_le_pow_right (by decide) (show F - 1 ≤ 52 by omega)) (by decide)
      · exact Nat.mul_le_mul_right _ (by omega)
  · rw [df hf, cond_false]
    rcases kp_inv hu hk with h | h
    · have e : zs u = 2047 * 2 ^ 52 := Nat.le_antisymm h (Nat.le_of_not_lt hf)
      rw [d_no hu, d_inf hu, cn1_eq_b2i, cn1_eq_b2i, df (by rw [e]; exact Nat.lt_irrefl _), dt e, Bool.not_false, Bool.not_true, cond_true, cond_false, e]
      unfold KP
      decide +kernel
    · have e : u = 9221120237041090560 := (yL_inj hu (by decide)).mp h
      subst e
      unfold KP
      decide +kernel
