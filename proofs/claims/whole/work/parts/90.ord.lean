/-! REALS: order, sign, steps -/
def rk (u : Nat) : Int := if sn u = true then -(zs u : Int) else (zs u : Int)
theorem z_dec {u : Nat} (hu : u < 2 ^ 64) : u = zs u + (if sn u = true then 2 ^ 63 else 0) := by
  have h5 : u / 2 ^ 63 < 2 := (Nat.div_lt_iff_lt_mul (by decide)).mpr hu
  have h3 := Nat.div_add_mod u (2 ^ 63)
  unfold zs sn
  by_cases h : 2 ^ 63 ≤ u
  · have h4 : 1 ≤ u / 2 ^ 63 := (Nat.le_div_iff_mul_le (by decide)).mpr (by rw [Nat.one_mul]; exact h)
    have h6 : u / 2 ^ 63 = 1 := by clear h3 h hu; omega
    rw [decide_eq_true h, if_pos rfl]
    rw [h6, Nat.mul_one, Nat.add_comm] at h3
    exact h3.symm
  · rw [decide_eq_false h, if_neg (by decide), Nat.add_zero]
    exact (Nat.mod_eq_of_lt (Nat.lt_of_not_le h)).symm
theorem z_lti (u : Nat) : (zs u : Int) < 9223372036854775808 := by
  have := Int.ofNat_lt.mpr (zs_lt u)
  rw [show ((2 ^ 63 : Nat) : Int) = 9223372036854775808 from by decide] at this
  exact this
theorem neg_zs (u : Nat) : (-(lN (zs u))).toInt = -(zs u : Int) := by
  have h := z_lti u
  rw [Int64.toInt_neg, yL_i (zs_lt u)]
  obtain ⟨k, hk⟩ : ∃ k, k = zs u := ⟨_, rfl⟩
  rw [← hk] at h ⊢
  clear hk
  exact Int.bmod_eq_of_le (by omega) (by omega)
theorem min_zs {u : Nat} (hu : u < 2 ^ 64) (h : sn u = true) : (-9223372036854775808 : Int64) - lN u = -(lN (zs u)) := by
  have e := z_dec hu
  rw [h, if_pos rfl] at e
  have : lN u = (-9223372036854775808 : Int64) + lN (zs u) := by
    rw [show (-9223372036854775808 : Int64) = lN (2 ^ 63) from by decide, yL_add, Nat.add_comm, ← e]
  rw [this, Int64.sub_eq_add_neg, Int64.neg_add, Int64.sub_eq_add_neg (- -9223372036854775808 : Int64), ← Int64.add_assoc, ← Int64.sub_eq_add_neg (-9223372036854775808 : Int64), Int64.sub_self, Int64.zero_add]
theorem d_rank {u : Nat} (hu : u < 2 ^ 64) : (f_Re_rank (lN u)).toInt = rk u := by
  unfold f_Re_rank rk
  rw [sn_ge hu]
  by_cases h : sn u = true
  · rw [h, Bool.not_true, cond_false, if_pos rfl, min_zs hu h, neg_zs]
  · rw [Bool.not_eq_true] at h
    have e := z_dec hu
    rw [h, if_neg (by decide), Nat.add_zero] at e
    rw [h, Bool.not_false, cond_true, if_neg (by decide), show lN u = lN (zs u) from by rw [← e], yL_i (zs_lt u)]
theorem ord_r {u : Nat} (hu : u < 2 ^ 64) : cond (!(sn u)) (lN u) (-(lN u &&& (9223372036854775807 : Int64))) = f_Re_rank (lN u) := by
  unfold f_Re_rank
  rw [sn_ge hu]
  by_cases h : sn u = true
  · rw [h, Bool.not_true, cond_false, cond_false, min_zs hu h, d_size hu]
  · rw [Bool.not_eq_true] at h
    rw [h, Bool.not_false, cond_true, cond_true]
theorem cdf {α β : Type} (b : Bool) (f : α → β) (x y : α) : cond b (f x) (f y) = f (cond b x y) := by cases b <;> rfl
theorem rk_0 {u : Nat} (h : zs u = 0) : rk u = 0 := by unfold rk; rw [h]; cases sn u <;> rfl
theorem d_order {u v : Nat} (hu : u < 2 ^ 64) (hv : v < 2 ^ 64) : f_M_order (lN u) (lN v) = if 2047 * 2 ^ 52 < zs u ∨ 2047 * 2 ^ 52 < zs v then 2 else if rk u < rk v then -1 else if rk v < rk u then 1 else 0 := by
  unfold f_M_order
  rw [d_no hu, d_no hv, d_zero hu, d_zero hv, cn1_ne_b2i, cn1_eq_b2i, cn1_eq_b2i, cn1_eq_b2i]
  by_cases nu : 2047 * 2 ^ 52 < zs u
  · rw [dt nu, cond_true, if_pos (Or.inl nu)]
  by_cases nv : 2047 * 2 ^ 52 < zs v
  · rw [df nu, dt nv, cond_false, Bool.not_true, cond_false, if_pos (Or.inr nv)]
  rw [df nu, df nv, cond_false, Bool.not_false, cond_true, if_neg (fun z => z.elim nu nv)]
  have h16 : t_M_order_16 (lN u) (lN v) = if rk u < rk v then -1 else if rk v < rk u then 1 else 0 := by
    unfold t_M_order_16 t_M_order_26
    rw [sn_ge hu, sn_ge hv, cdf (!(sn v)) (fun z => t_M_order_37 (lN u) z), cdf (!(sn v)) (fun z => t_M_order_37 (-(lN u &&& (9223372036854775807 : Int64))) z), cdf (!(sn u)) (fun z => t_M_order_37 z (cond (!(sn v)) (lN v) (-(lN v &&& (9223372036854775807 : Int64))))), ord_r hu, ord_r hv]
    unfold t_M_order_37
    rw [lc_ge, lc_le, d_rank hu, d_rank hv, cd_if, cd_if]
    by_cases h1 : rk u < rk v
    · rw [if_neg (Int.not_le.mpr h1), if_pos h1]
    · rw [if_pos (Int.not_lt.mp h1), if_neg h1]
      by_cases h2 : rk v < rk u
      · rw [if_neg (Int.not_le.mpr h2), if_pos h2]
      · rw [if_pos (Int.not_lt.mp h2), if_neg h2]
  rw [h16]
  by_cases zu : zs u = 0
  · by_cases zv : zs v = 0
    · rw [dt zu, dt zv, Bool.not_true, cond_false, cond_false, rk_0 zu, rk_0 zv, if_neg (by decide), if_neg (by decide)]
    · rw [dt zu, df zv, Bool.not_true, Bool.not_false, cond_false, cond_true]
  · rw [df zu, Bool.not_false, cond_true]
theorem rk_inj {u v : Nat} (hu : u < 2 ^ 64) (hv : v < 2 ^ 64) (h : rk u = rk v) (h0 : ¬ (zs u = 0 ∧ zs v = 0)) : u = v := by
  unfold rk at h
  by_cases a : sn u = true
  · by_cases b : sn v = true
    · rw [if_pos a, if_pos b] at h
      exact z_eq hu hv (by clear hu hv; omega) (a.trans b.symm)
    · rw [if_pos a, if_neg b] at h
      exact absurd (show zs u = 0 ∧ zs v = 0 by clear hu hv h0; omega) h0
  · by_cases b : sn v = true
    · rw [if_neg a, if_pos b] at h
      exact absurd (show zs u = 0 ∧ zs v = 0 by clear hu hv h0; omega) h0
    · rw [if_neg a, if_neg b] at h
      rw [Bool.not_eq_true] at a b
      exact z_eq hu hv (by clear hu hv; omega) (a.trans b.symm)
theorem zt {u : Nat} (hu : u < 2 ^ 64) : ∃ w, w < 2 ^ 64 ∧ lN u ^^^ (-9223372036854775808 : Int64) = lN w ∧ zs w = zs u ∧ sn w = !(sn u) := by
  have h63 : (2 : Nat) ^ 63 < 2 ^ 64 := by decide
  refine ⟨u ^^^ 2 ^ 63, Nat.xor_lt_two_pow hu h63, ?_, ?_, ?_⟩
  · rw [show (-9223372036854775808 : Int64) = lN (2 ^ 63) from by decide, lN_xor]
  · unfold zs
    rw [Nat.xor_mod_two_pow, Nat.mod_self, Nat.xor_zero]
  · have h := sn_xor hu h63
    rw [lN_xor, lc_lt, show ((0 : Int64).toInt) = 0 from rfl, dcg (d_neg (Nat.xor_lt_two_pow hu h63)), show sn (2 ^ 63) = true from by decide] at h
    unfold sn at h ⊢
    rw [h]
    cases decide (2 ^ 63 ≤ u) <;> rfl
theorem rk_t {u w : Nat} (h1 : zs w = zs u) (h2 : sn w = !(sn u)) : rk w = -rk u := by
  unfold rk
  rw [h1, h2]
  cases sn u
  · rfl
  · exact (Int.neg_neg _).symm
theorem and_self64 (a : Int64) : a &&& a = a := Int64.and_self
/-- the greater of two reals -/
theorem gr_R {u v : Nat} (hu : u < 2 ^ 64) (hv : v < 2 ^ 64) (nu : ¬ 2047 * 2 ^ 52 < zs u) (nv : ¬ 2047 * 2 ^ 52 < zs v) : f_Re_greater (lN u) (lN v) = if zs u = 0 ∧ zs v = 0 then lN u &&& lN v else if rk u < rk v then lN v else lN u := by
  unfold f_Re_greater
  rw [d_nan hu, d_nan hv, cn1_ne_b2i, cn1_eq_b2i, df nu, df nv, cond_false, Bool.not_false, cond_true, lc_ne, lc_le, d_rank hu, d_rank hv, dcg (not_congr Int64.toInt_inj.symm), d_rank hu, d_rank hv]
  by_cases h0 : zs u = 0 ∧ zs v = 0
  · rw [if_pos h0, cd_f (fun z => z (by rw [rk_0 h0.1, rk_0 h0.2]))]
  · rw [if_neg h0]
    by_cases he : rk u = rk v
    · rw [cd_f (fun z => z he), if_neg (by rw [he]; exact Int.lt_irrefl _), rk_inj hu hv he h0, and_self64]
    · rw [cd_t he, cd_if]
      by_cases h1 : rk u < rk v
      · rw [if_pos h1, if_pos (Int.le_of_lt h1)]
      · rw [if_neg h1, if_neg (fun z => he (Int.le_antisymm z (Int.not_lt.mp h1)))]
theorem two_M {u v : Nat} (hu : u < 2 ^ 64) (hv : v < 2 ^ 64) (nu : ¬ 2047 * 2 ^ 52 < zs u) (nv : ¬ 2047 * 2 ^ 52 < zs v) : t_M_two_54 (lN u) (lN v) 5 = (if rk u < rk v then lN v else lN u) ∧ t_M_two_54 (lN u) (lN v) 6 = (if rk u < rk v then lN u else lN v) := by
  unfold t_M_two_54 t_M_two_61 t_M_two_67
  rw [d_order hu hv, if_neg (fun z => z.elim nu nv)]
  by_cases h1 : rk u < rk v
  · rw [if_pos h1, if_pos h1, if_pos h1]
    exact ⟨rfl, rfl⟩
  · rw [if_neg h1, if_neg h1, if_neg h1]
    by_cases h2 : rk v < rk u
    · rw [if_pos h2]
      exact ⟨rfl, rfl⟩
    · rw [if_neg h2]
      exact ⟨rfl, rfl⟩
theorem d_turn {u : Nat} (hu : u < 2 ^ 64) (nu : ¬ 2047 * 2 ^ 52 < zs u) : f_Re_turned (lN u) = lN u ^^^ (-9223372036854775808 : Int64) := by
  unfold f_Re_turned
  rw [d_nan hu, cn1_eq_b2i, df nu, Bool.not_false, cond_true]
theorem d_turnn {u : Nat} (hu : u < 2 ^ 64) (nu : 2047 * 2 ^ 52 < zs u) : f_Re_turned (lN u) = 9221120237041090560 := by
  unfold f_Re_turned
  rw [d_nan hu, cn1_eq_b2i, dt nu, Bool.not_true, cond_false]
theorem nan_N : f_Re_isNan (9221120237041090560 : Int64) = true := by rw [show (9221120237041090560 : Int64) = lN 9221120237041090560 from rfl, d_nan (by decide)]; decide
theorem xor2 (a b : Int64) : (a ^^^ b) ^^^ b = a := by rw [Int64.xor_assoc, Int64.xor_self, Int64.xor_zero]
theorem zt_or {u v : Nat} (hu : u < 2 ^ 64) (hv : v < 2 ^ 64) (h0 : zs u = 0 ∧ zs v = 0) : ((lN u ^^^ (-9223372036854775808)) &&& (lN v ^^^ (-9223372036854775808))) ^^^ (-9223372036854775808) = lN u ||| lN v := by
  rcases z_00 hu h0.1 with z | z <;> rcases z_00 hv h0.2 with y | y <;> rw [z, y] <;> decide
theorem kp_an {u v : Nat} (hu : u < 2 ^ 64) (hv : v < 2 ^ 64) (h0 : zs u = 0 ∧ zs v = 0) : ∃ w, w < 2 ^ 64 ∧ lN u &&& lN v = lN w ∧ zs w = 0 := by
  rcases z_00 hu h0.1 with z | z <;> rcases z_00 hv h0.2 with y | y <;> rw [z, y]
  · exact ⟨0, by decide, by decide, by decide⟩
  · exact ⟨0, by decide, by decide, by decide⟩
  · exact ⟨0, by decide, by decide, by decide⟩
  · exact ⟨2 ^ 63, by decide, by decide, by decide⟩
theorem gr_5 {u v : Nat} (hu : u < 2 ^ 64) (hv : v < 2 ^ 64) : f_Re_greater (lN u) (lN v) = f_M_two (lN u) (lN v) 5 := by
  unfold f_M_two
  rw [if_neg (by decide), if_neg (by decide), if_neg (by decide), if_neg (by decide), if_neg (by decide), if_pos rfl]
  by_cases nu : 2047 * 2 ^ 52 < zs u
  · unfold f_Re_greater
    rw [d_nan hu, d_no hu, cn1_ne_b2i, dt nu, cond_true, cond_true]
  by_cases nv : 2047 * 2 ^ 52 < zs v
  · unfold f_Re_greater
    rw [d_nan hu, d_no hu, d_nan hv, d_no hv, cn1_ne_b2i, df nu, cond_false, cond_false, cn1_eq_b2i, dt nv, Bool.not_true, cond_false, cond_false]
  rw [gr_R hu hv nu nv, d_no hu, d_no hv, cn1_ne_b2i, df nu, cond_false, cn1_eq_b2i, df nv, Bool.not_false, cond_true, d_zero hu, d_zero hv, cn1_eq_b2i, cn1_eq_b2i, (two_M hu hv nu nv).1, show cn2 .ne (5 : Int32) (5 : Int32) = false from rfl, cond_false]
  by_cases zu : zs u = 0
  · by_cases zv : zs v = 0
    · rw [dt zu, dt zv, Bool.not_true, cond_false, cond_false, if_pos ⟨zu, zv⟩]
    · rw [dt zu, df zv, Bool.not_true, Bool.not_false, cond_false, cond_true, if_neg (fun z => zv z.2)]
  · rw [df zu, Bool.not_false, cond_true, if_neg (fun z => zu z.1)]
theorem le_6 {u v : Nat} (hu : u < 2 ^ 64) (hv : v < 2 ^ 64) : f_Re_lesser (lN u) (lN v) = f_M_two (lN u) (lN v) 6 := by
  unfold f_M_two
  rw [if_neg (by decide), if_neg (by decide), if_neg (by decide), if_neg (by decide), if_neg (by decide), if_neg (by decide), if_pos rfl]
  unfold f_Re_lesser
  have tn : f_Re_turned (9221120237041090560 : Int64) = 9221120237041090560 := by
    unfold f_Re_turned
    rw [nan_N, cn1_eq_b2i, Bool.not_true, cond_false]
  by_cases nu : 2047 * 2 ^ 52 < zs u
  · rw [d_turnn hu nu, d_no hu, cn1_ne_b2i, dt nu, cond_true]
    unfold f_Re_greater
    rw [nan_N, cn1_ne_b2i, cond_true, tn]
  obtain ⟨a, ha, ea, za, sa⟩ := zt hu
  by_cases nv : 2047 * 2 ^ 52 < zs v
  · rw [d_turnn hv nv, d_turn hu nu, ea, d_no hu, d_no hv, cn1_ne_b2i, df nu, cond_false, cn1_eq_b2i, dt nv, Bool.not_true, cond_false]
    unfold f_Re_greater
    rw [nan_N, d_nan ha, cn1_ne_b2i, za, df nu, cond_false, cn1_eq_b2i, Bool.not_true, cond_false, tn]
  obtain ⟨b, hb, eb, zb, sb⟩ := zt hv
  have na : ¬ 2047 * 2 ^ 52 < zs a := by rw [za]; exact nu
  have nb : ¬ 2047 * 2 ^ 52 < zs b := by rw [zb]; exact nv
  rw [d_turn hu nu, d_turn hv nv, ea, eb, gr_R ha hb na nb, za, zb, rk_t za sa, rk_t zb sb, d_no hu, d_no hv, cn1_ne_b2i, df nu, cond_false, cn1_eq_b2i, df nv, Bool.not_false, cond_true, d_zero hu, d_zero hv, cn1_eq_b2i, cn1_eq_b2i, (two_M hu hv nu nv).2, show cn2 .ne (6 : Int32) (5 : Int32) = true from rfl, cond_true]
  have ta : f_Re_turned (lN a) = lN u := by rw [d_turn ha na, ← ea, xor2]
  have tb : f_Re_turned (lN b) = lN v := by rw [d_turn hb nb, ← eb, xor2]
  by_cases h0 : zs u = 0 ∧ zs v = 0
  · rw [if_pos h0, dt h0.1, dt h0.2, Bool.not_true, cond_false, cond_false]
    obtain ⟨w, hw, ew, zw⟩ := kp_an ha hb ⟨za.trans h0.1, zb.trans h0.2⟩
    rw [ew, d_turn hw (by rw [zw]; decide), ← ew, ← ea, ← eb, zt_or hu hv h0]
  · rw [if_neg h0]
    have e1 : f_Re_turned (if -rk u < -rk v then lN b else lN a) = if rk u < rk v then lN u else lN v := by
      by_cases h1 : rk u < rk v
      · rw [if_pos h1, if_neg (by clear hu hv ha hb nu nv na nb; omega), ta]
      · rw [if_neg h1]
        by_cases h2 : -rk u < -rk v
        · rw [if_pos h2, tb]
        · rw [if_neg h2, ta, rk_inj hu hv (by clear hu hv ha hb nu nv na nb; omega) h0]
    rw [e1]
    by_cases zu : zs u = 0
    · have zv : ¬ zs v = 0 := fun z => h0 ⟨zu, z⟩
      rw [dt zu, df zv, Bool.not_true, Bool.not_false, cond_false, cond_true]
    · rw [df zu, Bool.not_false, cond_true]
