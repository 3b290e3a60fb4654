/-! REALS: OP 7 -/
theorem sg_kp {u : Nat} {b : Bool} (h : ¬ 2047 * 2 ^ 52 < zs u) : KP (lN (zs u) ||| SG b) := kp_sg (Nat.le_of_not_lt h)
theorem with_7 {u v : Nat} (hu : u < 2 ^ 64) (hv : v < 2 ^ 64) (hk : KP (lN u)) : f_Re_withSign (lN u) (lN v) = cond (cn1 .eq (b2i (f_M_isNo (lN u)))) (cond (cn1 .eq (b2i (f_M_isNo (lN v)))) ((lN u &&& (9223372036854775807 : Int64)) ||| (lN v &&& (-9223372036854775808 : Int64))) ((lN u &&& (9223372036854775807 : Int64)) ||| (0 : Int64))) (lN u) := by
  unfold f_Re_withSign
  rw [d_nan hu, d_nan hv, d_no hu, d_no hv, cn1_eq_b2i, cn1_eq_b2i, Int64.or_zero]
  by_cases nu : 2047 * 2 ^ 52 < zs u
  · rw [dt nu, Bool.not_true, cond_false, cond_false]
    exact ((kp_inv hu hk).resolve_left (Nat.not_le.mpr nu)).symm
  · rw [df nu, Bool.not_false, cond_true, cond_true]
    rfl
theorem paired_two (h : Int32) (x y : Int64) (hx : KP x) : f_Re_paired h x y = f_M_two x y h := by
  obtain ⟨u, hu, rfl⟩ := d_of x
  obtain ⟨v, hv, rfl⟩ := d_of y
  by_cases h0 : h = 0
  · unfold f_Re_paired f_M_two
    rw [if_pos h0, if_pos h0, sum_added]
  by_cases h1 : h = 1
  · unfold f_Re_paired f_M_two t_M_two_15
    rw [if_neg h0, if_neg h0, if_pos h1, if_pos h1, sum_added, d_no hv, cn1_eq_b2i]
    by_cases nv : 2047 * 2 ^ 52 < zs v
    · rw [dt nv, Bool.not_true, cond_false, d_turnn hv nv, ← sum_added, ← sum_added]
      unfold f_Re_sum
      rw [nan_N, d_nan hv, dt nv]
      rfl
    · rw [df nv, Bool.not_false, cond_true, d_turn hv nv]
  by_cases h2 : h = 2
  · unfold f_Re_paired f_M_two
    rw [if_neg h0, if_neg h0, if_neg h1, if_neg h1, if_pos h2, if_pos h2, product_times]
  by_cases h3 : h = 3
  · unfold f_Re_paired f_M_two
    rw [if_neg h0, if_neg h0, if_neg h1, if_neg h1, if_neg h2, if_neg h2, if_pos h3, if_pos h3, quotient_by]
  by_cases h4 : h = 4
  · unfold f_Re_paired f_M_two
    rw [if_neg h0, if_neg h0, if_neg h1, if_neg h1, if_neg h2, if_neg h2, if_neg h3, if_neg h3, if_pos h4, if_pos h4, remainder_left]
  by_cases h5 : h = 5
  · rw [h5, ← gr_5 hu hv]
    unfold f_Re_paired
    rw [if_neg (by decide), if_neg (by decide), if_neg (by decide), if_neg (by decide), if_neg (by decide), if_pos rfl]
  by_cases h6 : h = 6
  · rw [h6, ← le_6 hu hv]
    unfold f_Re_paired
    rw [if_neg (by decide), if_neg (by decide), if_neg (by decide), if_neg (by decide), if_neg (by decide), if_neg (by decide), if_pos rfl]
  unfold f_Re_paired f_M_two
  rw [if_neg h0, if_neg h0, if_neg h1, if_neg h1, if_neg h2, if_neg h2, if_neg h3, if_neg h3, if_neg h4, if_neg h4, if_neg h5, if_neg h5, if_neg h6, if_neg h6]
  exact with_7 hu hv hx
theorem kp_turned (x : Int64) : KP (f_Re_turned x) := by
  obtain ⟨u, hu, rfl⟩ := d_of x
  by_cases nu : 2047 * 2 ^ 52 < zs u
  · rw [d_turnn hu nu]
    exact kp_nan
  · obtain ⟨a, ha, ea, za, sa⟩ := zt hu
    rw [d_turn hu nu, ea]
    exact kp_of ha (by rw [za]; exact Nat.le_of_not_lt nu)
theorem kp_greater (x y : Int64) : KP (f_Re_greater x y) := by
  obtain ⟨u, hu, rfl⟩ := d_of x
  obtain ⟨v, hv, rfl⟩ := d_of y
  by_cases nu : 2047 * 2 ^ 52 < zs u
  · unfold f_Re_greater
    rw [d_nan hu, cn1_ne_b2i, dt nu, cond_true]
    exact kp_nan
  by_cases nv : 2047 * 2 ^ 52 < zs v
  · unfold f_Re_greater
    rw [d_nan hu, d_nan hv, cn1_ne_b2i, df nu, cond_false, cn1_eq_b2i, dt nv, Bool.not_true, cond_false]
    exact kp_nan
  rw [gr_R hu hv nu nv]
  split
  · next h =>
    obtain ⟨w, hw, ew, zw⟩ := kp_an hu hv h
    rw [ew]
    exact kp_of hw (by rw [zw]; exact Nat.zero_le _)
  · split
    · exact kp_of hv (Nat.le_of_not_lt nv)
    · exact kp_of hu (Nat.le_of_not_lt nu)
theorem kp_with (x y : Int64) : KP (f_Re_withSign x y) := by
  obtain ⟨u, hu, rfl⟩ := d_of x
  obtain ⟨v, hv, rfl⟩ := d_of y
  unfold f_Re_withSign
  rw [d_nan hu, d_nan hv, cn1_eq_b2i, cn1_eq_b2i, sgn_and hv, show f_Re_size (lN u) = lN (zs u) from d_size hu]
  refine cdP _ (fun nu => ?_) (fun _ => kp_nan)
  have nu' : ¬ 2047 * 2 ^ 52 < zs u := fun z => by rw [dt z] at nu; exact absurd nu (by decide)
  refine cdP _ (fun _ => sg_kp nu') (fun _ => ?_)
  have := sg_kp (b := false) nu'
  rw [show lN (zs u) ||| SG false = lN (zs u) from Int64.or_zero] at this
  exact this
theorem kp_paired (h : Int32) (x y : Int64) (hx : KP x) : KP (f_Re_paired h x y) := by
  unfold f_Re_paired
  split
  · exact kp_sum _ _
  split
  · exact kp_sum _ _
  split
  · exact kp_product _ _
  split
  · exact kp_quotient _ _
  split
  · exact kp_remainder _ _ hx
  split
  · exact kp_greater _ _
  split
  · exact kp_turned _
  · exact kp_with _ _
/-! holds -/
theorem d_holds {h : Int32} {u v : Nat} (hu : u < 2 ^ 64) (hv : v < 2 ^ 64) : f_Re_holds h (lN u) (lN v) = if 2047 * 2 ^ 52 < zs u ∨ 2047 * 2 ^ 52 < zs v then decide (h = 5) else if h = 0 then decide (rk u < rk v) else if h = 1 then decide (rk u ≤ rk v) else if h = 2 then decide (rk v < rk u) else if h = 3 then decide (rk v ≤ rk u) else if h = 4 then decide (rk u = rk v) else decide (¬ rk u = rk v) := by
  unfold f_Re_holds t_Re_holds_6
  have h5 : cond (cn2 .ne h (5 : Int32)) false true = decide (h = 5) := by
    unfold cn2
    by_cases z : h = 5
    · simp [z]
    · simp [z]
  rw [d_nan hu, d_nan hv, cn1_ne_b2i, cn1_eq_b2i, h5]
  by_cases nu : 2047 * 2 ^ 52 < zs u
  · rw [dt nu, cond_true, if_pos (Or.inl nu)]
  by_cases nv : 2047 * 2 ^ 52 < zs v
  · rw [df nu, dt nv, cond_false, Bool.not_true, cond_false, if_pos (Or.inr nv)]
  rw [df nu, df nv, cond_false, Bool.not_false, cond_true, if_neg (show ¬ (2047 * 2 ^ 52 < zs u ∨ 2047 * 2 ^ 52 < zs v) from fun z => z.elim nu nv), lc_ge, lc_gt, lc_le, lc_lt, lc_ne, lc_eq, dcg Int64.toInt_inj.symm, dcg (not_congr Int64.toInt_inj.symm), d_rank hu, d_rank hv, cb_f, cb_f, cb_f, cb_f, cb_f, cb_f, dcg Int.not_le, dcg Int.not_lt, dcg Int.not_le, dcg Int.not_lt, dcg Decidable.not_not]
