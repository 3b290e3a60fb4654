/-! REALS: floats, whole ints, OP 8 -/
theorem r23 {M : Nat} {e : Int32} (hM : M ≠ 0) (hM2 : M < 2 ^ 63) (he : -20000 ≤ e.toInt ∧ e.toInt ≤ 20000) : f_Re_rounded (lN M) e (23 : Int32) (127 : Int32) = lN (pk 23 127 M e.toInt false) := rounded_pk (p := 23) (B := 127) rfl rfl (by decide) (by decide) (by decide) (by decide) (by decide) hM hM2 he
theorem p23 {M : Nat} {x : Int32} (hM : M ≠ 0) (hM2 : M < 2 ^ 63) (hx : -20000 ≤ x.toInt ∧ x.toInt ≤ 20000) : f_M_packed (lN M) x 0 24 (-149) = lN (pk 23 127 M x.toInt false) := packed_pk (p := 23) (B := 127) rfl rfl (Or.inr ⟨rfl, rfl⟩) hM hM2 hx
theorem zxr (u : Nat) {x : Int32} (h : x.toInt = zx u) : -20000 ≤ x.toInt ∧ x.toInt ≤ 20000 := by
  have := zx_b u
  omega
theorem flt_b {u : Nat} (hu : u < 2 ^ 64) : f_Re_rounded (f_Re_mantissa (lN u)) (f_Re_exponent (lN u)) 23 127 = f_M_packed (f_M_mantissa (lN u)) (f_M_power (lN u)) 0 24 (-149) := by
  have e1 := d_exp hu
  have e2 := d_pow hu
  rw [d_manR hu, d_manM hu]
  by_cases z : zm u = 0
  · rw [z]
    show f_Re_rounded 0 _ _ _ = f_M_packed 0 _ _ _ _
    rw [rnd0]
    unfold f_M_packed
    rw [show cn1 .ne (lg_cmp (0 : Int64) 0) = false from rfl, cond_false]
  · rw [r23 z (Nat.lt_trans (zm_lt u) (by decide)) (zxr u e1), p23 z (Nat.lt_trans (zm_lt u) (by decide)) (zxr u e2), e1, e2]
theorem toFloat_narrow (x : Int64) : f_Re_toFloat x = f_M_narrow x := by
  obtain ⟨u, hu, rfl⟩ := d_of x
  have key : ∀ w : Int32, t_Re_toFloat_12 (lN u) w = t_M_narrow_12 (lN u) w := fun w => by
    unfold t_Re_toFloat_12 t_M_narrow_12
    rw [show f_Re_size (lN u) = lN (zs u) from d_size hu, d_inf hu, cn1_eq_b2i, lc_ne, show (9218868437227405312 : Int64) = lN (2047 * 2 ^ 52) from by decide, dcg (not_congr (yL_inj (zs_64 u) (by decide))), dn, flt_b hu, Int32.or_comm w, Int32.or_comm w]
  unfold f_Re_toFloat f_M_narrow
  rw [key, key, d_nan hu, d_no hu]
theorem i_or0 (a : Int64) : (0 : Int64) ||| a = a := Int64.zero_or
/-- a float's parts -/
theorem fl_p {n : Nat} (hn : n < 2 ^ 32) : (nI n) &&& (8388607 : Int32) = nI (n % 2 ^ 23) := by
  rw [show (8388607 : Int32) = nI (2 ^ 23 - 1) from by decide, nx_and, Nat.and_two_pow_sub_one_eq_mod]
theorem fl_e {n : Nat} (hn : n < 2 ^ 32) : (((Int32.toUInt32 (nI n) >>> (Int32.toUInt32 (23 : Int32) &&& Int32.toUInt32 31)).toInt32) &&& (255 : Int32)) = nI (n / 2 ^ 23 % 256) := by
  have h : ((Int32.toUInt32 (nI n) >>> (Int32.toUInt32 (23 : Int32) &&& Int32.toUInt32 31)).toInt32) = nI (n / 2 ^ 23) := by
    refine Int32.toBitVec_inj.mp (BitVec.eq_of_toNat_eq ?_)
    show ((BitVec.ofNat 32 n) >>> ((BitVec.ofNat 32 23 &&& BitVec.ofNat 32 31) % 32)).toNat = (BitVec.ofNat 32 (n / 2 ^ 23)).toNat
    rw [show (BitVec.ofNat 32 23 &&& BitVec.ofNat 32 31) % 32 = BitVec.ofNat 32 23 from by decide]
    rw [BitVec.toNat_ofNat, BitVec.ushiftRight_eq', BitVec.toNat_ushiftRight, BitVec.toNat_ofNat, Nat.mod_eq_of_lt hn, Nat.shiftRight_eq_div_pow, show (BitVec.ofNat 32 23).toNat = 23 from by decide]
    exact (Nat.mod_eq_of_lt (Nat.lt_of_le_of_lt (Nat.div_le_self _ _) hn)).symm
  rw [h, show (255 : Int32) = nI (2 ^ 8 - 1) from by decide, nx_and, Nat.and_two_pow_sub_one_eq_mod]
theorem fl_64 {m : Nat} (hm : m < 2 ^ 31) : Int32.toInt64 (nI m) = lN m := i64_of (yI_i hm) hm
theorem fl_i {m : Nat} (hm : m < 2 ^ 23) : Int32.toInt64 (nI m ||| (8388608 : Int32)) = lN (m + 2 ^ 23) := by
  rw [Int32.toInt64_or, fl_64 (Nat.lt_trans hm (by decide)), show Int32.toInt64 (8388608 : Int32) = lN (1 * 2 ^ 23) from by decide]
  exact g_or' (k := 23) rfl hm (Nat.lt_of_lt_of_le (Nat.add_lt_add_right hm _) (by decide))
theorem fl_c (m : Nat) : lN m ||| (8388608 : Int64) = Int32.toInt64 0 ||| lN m ||| 8388608 := by rw [show Int32.toInt64 0 = 0 from rfl, Int64.zero_or]
theorem ofFloat_wide (f : Int32) : f_Re_ofFloat f = f_M_wide f ∧ KP (f_Re_ofFloat f) := by
  obtain ⟨n, hn, rfl⟩ := wb_of32 f
  obtain ⟨m, hm⟩ : ∃ m, m = n % 2 ^ 23 := ⟨_, rfl⟩
  obtain ⟨e, he⟩ : ∃ e, e = n / 2 ^ 23 % 256 := ⟨_, rfl⟩
  have hm2 : m < 2 ^ 23 := by rw [hm]; exact Nat.mod_lt _ (by decide)
  have he2 : e < 256 := by rw [he]; exact Nat.mod_lt _ (by decide)
  have q1 : Int32.toInt64 (nI n) &&& (8388607 : Int64) = lN m := by
    rw [show (8388607 : Int64) = Int32.toInt64 8388607 from by decide, ← Int32.toInt64_and, fl_p hn, ← hm, fl_64 (Nat.lt_trans hm2 (by decide))]
  have q2 : lN m ||| (8388608 : Int64) = lN (m + 2 ^ 23) := by
    rw [show (8388608 : Int64) = lN (1 * 2 ^ 23) from by decide]
    exact g_or' (k := 23) rfl hm2 (Nat.lt_of_lt_of_le (Nat.add_lt_add_right hm2 _) (by decide))
  have m63a : m < 2 ^ 63 := Nat.lt_trans hm2 (by decide)
  have m63b : m + 2 ^ 23 < 2 ^ 63 := Nat.lt_of_lt_of_le (Nat.add_lt_add_right hm2 _) (by decide)
  have en : (nI e).toInt = (e : Int) := yI_i (Nat.lt_trans he2 (by decide))
  have mn : (nI m).toInt = (m : Int) := yI_i (Nat.lt_trans hm2 (by decide))
  have key : ∀ b : Bool, t_Re_ofFloat_5 (nI n) (SG b) = t_M_wide_15 (nI e) (nI m) (cond b 1 0) ∧ KP (t_Re_ofFloat_5 (nI n) (SG b)) := fun b => by
    have hb : ((cond b 1 0 : Int32).toInt = 0) ↔ b = false := by cases b <;> decide
    unfold t_Re_ofFloat_5 t_M_wide_15
    have hmz : (lN m = (0 : Int64)) ↔ m = 0 := yL_inj (b := 0) (lt64 m63a) (by decide)
    rw [fl_e hn, ← he, q1, q2, c2_ne (nI e), c1_ne (nI e), c1_ne (nI m), en, mn, show ((255 : Int32).toInt) = 255 from rfl, lc_ne, sg_0, sg_inf, dcg (not_congr hmz)]
    by_cases h1 : e = 255
    · have d1 : decide (¬ (e : Int) = 255) = false := df (by rw [h1]; exact fun z => z rfl)
      simp only [d1, cond_false]
      rw [c1_eq, mn]
      by_cases h2 : m = 0
      · have d2 : decide (¬ m = 0) = false := df (fun z => z h2)
        have d3 : decide ((m : Int) = 0) = true := dt (by rw [h2]; rfl)
        simp only [d2, d3, cond_false, cond_true]
        exact ⟨by trivial, kp_i⟩
      · have d2 : decide (¬ m = 0) = true := dt h2
        have d3 : decide ((m : Int) = 0) = false := df (by clear hn hm hm2 m63a m63b; omega)
        simp only [d2, d3, cond_false, cond_true]
        exact ⟨by trivial, kp_nan⟩
    · have d1 : decide (¬ (e : Int) = 255) = true := dt (by clear hn hm hm2 m63a m63b; omega)
      simp only [d1, cond_true]
      unfold t_Re_ofFloat_37 t_M_wide_39
      by_cases h2 : e = 0
      · have d2 : decide (¬ (e : Int) = 0) = false := df (by rw [h2]; exact fun z => z rfl)
        have hx : ((if nI e < 1 then (1 : Int32) else nI e) - 127 - 23).toInt = -149 := by
          rw [if_pos (by rw [Int32.lt_iff_toInt_lt, en, h2]; decide)]
          decide
        rw [c1_ne (nI e), en]
        simp only [d2, cond_false]
        by_cases h3 : m = 0
        · have d3 : decide (¬ (m : Int) = 0) = false := df (by rw [h3]; exact fun z => z rfl)
          simp only [d3, cond_false]
          rw [h3, show lN 0 = (0 : Int64) from rfl, rnd0, Int64.or_zero]
          exact ⟨rfl, kp_0⟩
        · have d3 : decide (¬ (m : Int) = 0) = true := dt (by clear hn hm hm2 m63a m63b; omega)
          simp only [d3, cond_true]
          rw [fl_64 (Nat.lt_trans hm2 (by decide)), r52 h3 m63a (by rw [hx]; decide), s52 h3 m63a (by decide), hx, Int64.or_comm, sgx]
          exact ⟨rfl, kp_pk h3⟩
      · have d2 : decide (¬ (e : Int) = 0) = true := dt (by clear hn hm hm2 m63a m63b; omega)
        rw [c1_ne (nI e), en]
        simp only [d2, cond_true]
        rw [fl_i hm2]
        have hx : ((if nI e < 1 then (1 : Int32) else nI e) - 127 - 23).toInt = (e : Int) - 150 := by
          rw [if_neg (by rw [Int32.lt_iff_toInt_lt, en, show ((1 : Int32).toInt) = 1 from rfl]; clear hn hm hm2 m63a m63b; omega)]
          have a1 := i_subn (a := (e : Int)) (b := 127) en (show ((127 : Int32).toInt) = 127 from rfl) (by clear hn hm hm2 m63a m63b; omega) (by clear hn hm hm2 m63a m63b; omega) (by decide) (by decide)
          have a2 := i_subn (b := 23) a1 (show ((23 : Int32).toInt) = 23 from rfl) (by clear hn hm hm2 m63a m63b a1; omega) (by clear hn hm hm2 m63a m63b a1; omega) (by decide) (by decide)
          rw [a2]
          clear hn hm hm2 m63a m63b a1 a2
          omega
        have hy : (nI e - 150).toInt = (e : Int) - 150 := i_subn en (show ((150 : Int32).toInt) = 150 from rfl) (by clear hn hm hm2 m63a m63b; omega) (by clear hn hm hm2 m63a m63b; omega) (by decide) (by decide)
        have h3 : m + 2 ^ 23 ≠ 0 := Nat.ne_of_gt (Nat.lt_of_lt_of_le (by decide) (Nat.le_add_left _ _))
        rw [r52 h3 m63b (by rw [hx]; clear hn hm hm2 m63a m63b; omega), s52 h3 m63b (by rw [hy]; clear hn hm hm2 m63a m63b; omega), hx, hy, Int64.or_comm, sgx]
        exact ⟨rfl, kp_pk h3⟩
  unfold f_Re_ofFloat f_M_wide
  rw [fl_e hn, ← he, fl_p hn, ← hm]
  cases cn1 .ge (nI n)
  · exact key true
  · exact key false
/-! whole ints -/
theorem toInt_whole (x : Int64) : f_Re_toInt x = f_M_whole x := by
  obtain ⟨u, hu, rfl⟩ := d_of x
  have hf := d_fld hu
  have hp := d_pow hu
  have he := ze_lt u
  have ml := zm_lt u
  have sgn : cn1 .ge (lg_cmp (lN u) (0 : Int64)) = !(sn u) := by
    rw [lc_ge, show ((0 : Int64).toInt) = 0 from rfl, show decide (0 ≤ (lN u).toInt) = decide (¬ (lN u).toInt < 0) from dcg (by omega), dn, dcg (d_neg hu)]
    rfl
  unfold f_Re_toInt f_M_whole
  rw [d_nan hu, d_no hu, cn1_ne_b2i, cn1_eq_b2i, c2_ge, c2_lt, c2_lt, c2_ge, hf, hp, show ((1023 : Int32).toInt) = 1023 from rfl, show ((1054 : Int32).toInt) = 1054 from rfl, show ((-21 : Int32).toInt) = -21 from rfl, show ((-60 : Int32).toInt) = -60 from rfl, d_manR hu, d_manM hu]
  by_cases a1 : 2047 * 2 ^ 52 < zs u
  · rw [dt a1]
    rfl
  rw [df a1, cond_false, Bool.not_false, cond_true]
  have t0 : t_M_whole_31 (lN u) (0 : Int64) = 0 := by
    unfold t_M_whole_31
    cases cn1 .ge (lg_cmp (lN u) 0) <;> decide
  by_cases b1 : 1054 ≤ ze u
  · have z : zm u ≠ 0 := by
      unfold zm
      rw [if_neg (by clear hu ml a1; omega)]
      exact Nat.ne_of_gt (Nat.lt_of_lt_of_le (by decide) (Nat.le_add_left _ _))
    have hx : zx u = (ze u : Int) - 1075 := by unfold zx; rw [if_neg (by clear hu ml a1; omega)]
    rw [hx, cd_t (by clear hu ml a1; omega), cd_f (by clear hu ml a1; omega), cd_f (by clear hu ml a1; omega), lc_ne, cd_t (show ¬ lN (zm u) = (0 : Int64) from fun y => z ((yL_inj (b := 0) (Nat.lt_trans ml (by decide)) (by decide)).mp y))]
    unfold t_M_whole_31
    rw [sgn]
    cases sn u <;> decide
  · by_cases b2 : 1023 ≤ ze u
    · have hx : zx u = (ze u : Int) - 1075 := by unfold zx; rw [if_neg (by clear hu ml a1; omega)]
      obtain ⟨k, hk⟩ : ∃ k, k = 1075 - ze u := ⟨_, rfl⟩
      have s1 : (1075 - f_Re_field (lN u)).toInt = (k : Int) := by
        rw [i_subn (show ((1075 : Int32).toInt) = 1075 from rfl) hf (by clear hu ml a1; omega) (by clear hu ml a1; omega) (by clear hu ml a1; omega) (by clear hu ml a1; omega)]
        clear hu ml a1
        omega
      have s2 : (-(f_M_power (lN u))).toInt = (k : Int) := by
        rw [i_negy hp (by clear hu ml a1; omega) (by clear hu ml a1; omega), hx]
        clear hu ml a1
        omega
      rw [hx, cd_t (by clear hu ml a1; omega), cd_t (by clear hu ml a1; omega), cd_t (by clear hu ml a1; omega), cd_t (by clear hu ml a1; omega), yL_shr s1 (by clear hu ml a1; omega) (Nat.lt_trans ml (by decide)), yL_shr s2 (by clear hu ml a1; omega) (Nat.lt_trans ml (by decide))]
      have hq : zm u / 2 ^ k < 2 ^ 31 := by
        rw [Nat.div_lt_iff_lt_mul (pw_pos k), ← pw_add]
        exact Nat.lt_of_lt_of_le ml (Nat.pow_le_pow_right (by decide) (by clear hu ml a1; omega))
      unfold t_Re_toInt_30 t_M_whole_31
      rw [sgn, lc_lt, lc_le, yL_i (Nat.lt_trans hq (by decide)), show ((2147483648 : Int64).toInt) = ((2 ^ 31 : Nat) : Int) from by decide, cd_t (Int.ofNat_lt.mpr hq), cd_t (Int.ofNat_le.mpr (Nat.le_of_lt hq)), Int64.toInt32_neg]
    · rw [cd_f (by clear hu ml a1; omega)]
      have hx : zx u < -52 ∧ -2000 < zx u := by unfold zx; clear hu ml a1; split <;> omega
      rw [cd_t (by clear hu ml a1; omega)]
      by_cases b3 : -60 ≤ zx u
      · rw [cd_t b3]
        obtain ⟨k, hk⟩ : ∃ k : Nat, zx u = -(k : Int) := ⟨(-(zx u)).toNat, by clear hu ml a1; omega⟩
        have s2 : (-(f_M_power (lN u))).toInt = (k : Int) := by
          rw [i_negy hp (by clear hu ml a1; omega) (by clear hu ml a1; omega), hk, Int.neg_neg]
        rw [yL_shr s2 (by clear hu ml a1; omega) (Nat.lt_trans ml (by decide)), Nat.div_eq_of_lt (Nat.lt_of_lt_of_le ml (Nat.pow_le_pow_right (by decide) (by clear hu ml a1; omega)))]
        exact t0.symm
      · rw [cd_f b3]
        exact t0.symm
theorem changed_one (h : Int32) {x : Int64} (hk : KP x) : f_Re_changed h x = f_M_one x h ∧ KP (f_Re_changed h x) := by
  obtain ⟨u, hu, rfl⟩ := d_of x
  unfold f_Re_changed f_M_one
  rw [d_no hu, cn1_eq_b2i]
  by_cases a1 : 2047 * 2 ^ 52 < zs u
  · have e : lN u = 9221120237041090560 := (kp_inv hu hk).resolve_left (Nat.not_le.mpr a1)
    rw [dt a1, Bool.not_true, cond_false, e]
    have g : ∀ y : Int64, y = 9221120237041090560 → y = 9221120237041090560 ∧ KP y := fun y hy => ⟨hy, hy ▸ kp_nan⟩
    refine g _ ?_
    split
    · decide +kernel
    split
    · next h1 => rw [h1]; decide +kernel
    split
    · next h1 => rw [h1]; decide +kernel
    split
    · next h1 => rw [h1]; decide +kernel
    split
    · decide +kernel
    split
    · decide +kernel
    split
    · decide +kernel
    split
    · decide +kernel
    split
    · decide +kernel
    · decide +kernel
  rw [df a1, Bool.not_false, cond_true]
  have nan : f_Re_isNan (lN u) = false := by rw [d_nan hu]; exact df a1
  by_cases h0 : h = 0
  · rw [if_pos h0, if_pos h0]
    have e1 : f_Re_size (lN u) = lN (zs u) := d_size hu
    have e2 : zs (zs u) = zs u := Nat.mod_eq_of_lt (zs_lt u)
    have e3 : f_Re_plain (lN (zs u)) = lN (zs u) := kp_of (zs_64 u) (by rw [e2]; exact Nat.le_of_not_lt a1)
    rw [e1, e3]
    exact ⟨e1.symm, e3⟩
  rw [if_neg h0, if_neg h0]
  by_cases h1 : h = 1
  · rw [if_pos h1, if_pos h1]
    exact ⟨whole_even hk (Or.inl h1), kp_whole hk (Or.inl h1)⟩
  rw [if_neg h1, if_neg h1]
  by_cases h2 : h = 2
  · rw [if_pos h2, if_pos h2]
    exact ⟨whole_even hk (Or.inr (Or.inl h2)), kp_whole hk (Or.inr (Or.inl h2))⟩
  rw [if_neg h2, if_neg h2]
  by_cases h3 : h = 3
  · rw [if_pos h3, if_pos h3]
    exact ⟨whole_even hk (Or.inr (Or.inr h3)), kp_whole hk (Or.inr (Or.inr h3))⟩
  rw [if_neg h3, if_neg h3]
  by_cases h4 : h = 4
  · rw [if_pos h4, if_pos h4]
    unfold f_Re_signOf
    rw [nan, show f_Re_size (lN u) = lN (zs u) from d_size hu, d_zero hu, cn1_eq_b2i, cn1_eq_b2i, Bool.not_false, cond_true, zc_0, show f_M_realOf 1 = 4607182418800017408 from by decide +kernel, Int64.or_comm]
    refine ⟨rfl, ?_⟩
    cases decide (zs u = 0)
    · rw [Bool.not_false, cond_true, sgn_and hu, show (4607182418800017408 : Int64) = lN (1023 * 2 ^ 52) from by decide]
      exact kp_one _
    · exact hk
  rw [if_neg h4, if_neg h4]
  by_cases h5 : h = 5
  · rw [if_pos h5, if_pos h5]
    exact ⟨root_root hk, kp_root _ hk⟩
  rw [if_neg h5, if_neg h5]
  by_cases h6 : h = 6
  · rw [if_pos h6, if_pos h6]
    exact step_step hk
  rw [if_neg h6, if_neg h6]
  by_cases h7 : h = 7
  · rw [if_pos h7, if_pos h7]
    unfold f_Re_above f_M_above t_Re_above_7
    rw [nan, show f_Re_size (lN u) = lN (zs u) from d_size hu, d_zero hu, d_no hu, df a1, cn1_ne_b2i, cn1_eq_b2i, cond_false, cond_false, zc_0, show f_Re_plain (lN u) = lN u from hk]
    refine ⟨rfl, ?_⟩
    rw [lc_ne]
    by_cases b1 : lN u = 9218868437227405312
    · rw [cd_f (fun z => z b1)]
      exact hk
    rw [cd_t b1]
    by_cases b2 : zs u = 0
    · rw [dt b2, Bool.not_true, cond_false]
      unfold KP
      decide +kernel
    rw [df b2, Bool.not_false, cond_true]
    have b3 : zs u ≤ 2047 * 2 ^ 52 := Nat.le_of_not_lt a1
    have ed := z_dec hu
    have hsn : cn1 .ge (lg_cmp (lN u) (0 : Int64)) = !(sn u) := by
      rw [lc_ge, show ((0 : Int64).toInt) = 0 from rfl, show decide (0 ≤ (lN u).toInt) = decide (¬ (lN u).toInt < 0) from dcg (by clear hu a1 b3 ed; omega), dn, dcg (d_neg hu)]
      rfl
    rw [hsn]
    cases hs : sn u
    · rw [hs, if_neg (by decide), Nat.add_zero] at ed
      have b4 : zs u ≠ 2047 * 2 ^ 52 := fun z => b1 (by rw [ed, z]; decide)
      have b5 : zs u + 1 ≤ 2047 * 2 ^ 52 := Nat.lt_of_le_of_ne b3 b4
      rw [Bool.not_false, cond_true, show (1 : Int64) = lN 1 from rfl, yL_add, ed]
      exact kp_of (Nat.lt_of_le_of_lt b5 (by decide)) (by rw [show zs (zs u + 1) = zs u + 1 from Nat.mod_eq_of_lt (Nat.lt_of_le_of_lt b5 (by decide))]; exact b5)
    · rw [hs, if_pos rfl] at ed
      rw [Bool.not_true, cond_false, show (1 : Int64) = lN 1 from rfl]
      have b6 : u - 1 = (zs u - 1) + 2 ^ 63 := by
        obtain ⟨z, hz⟩ : ∃ z, z = zs u := ⟨_, rfl⟩
        rw [← hz] at ed b2
        rw [← hz]
        clear hu a1 b3 hz
        omega
      rw [yL_sub (by rw [ed]; exact Nat.le_trans (by decide) (Nat.le_add_left _ _)), b6]
      have b7 : zs (zs u - 1 + 2 ^ 63) = zs u - 1 := by
        show (zs u - 1 + 2 ^ 63) % 2 ^ 63 = zs u - 1
        rw [Nat.add_mod_right]
        exact Nat.mod_eq_of_lt (Nat.lt_of_le_of_lt (Nat.sub_le _ _) (zs_lt u))
      refine kp_of ?_ (by rw [b7]; exact Nat.le_trans (Nat.sub_le _ _) b3)
      rw [← b6]
      exact Nat.lt_of_le_of_lt (Nat.sub_le _ _) hu
  rw [if_neg h7, if_neg h7]
  by_cases h8 : h = 8
  · rw [if_pos h8, if_pos h8]
    refine ⟨d_turn hu a1, kp_turned _⟩
  rw [if_neg h8, if_neg h8, toFloat_narrow, (ofFloat_wide _).1]
  exact ⟨rfl, (ofFloat_wide _).1 ▸ (ofFloat_wide _).2⟩
