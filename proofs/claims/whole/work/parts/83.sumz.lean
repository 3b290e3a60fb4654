/-! REALS: sum is added -/
theorem z_m0 {u : Nat} (h : zm u = 0) : zs u = 0 := by
  have e := zs_eq u
  unfold zm at h
  by_cases hz : ze u = 0
  · rw [if_pos hz] at h
    rw [e, hz, h]
  · rw [if_neg hz] at h
    exact absurd h (Nat.ne_of_gt (Nat.lt_of_lt_of_le (by decide) (Nat.le_add_left (2 ^ 52) _)))
theorem z_inj {u v : Nat} (h1 : zx u = zx v) (h2 : zm u = zm v) : zs u = zs v := by
  have e1 := zs_eq u
  have e2 := zs_eq v
  have l1 : zs u % 2 ^ 52 < 2 ^ 52 := Nat.mod_lt _ (by decide)
  have l2 : zs v % 2 ^ 52 < 2 ^ 52 := Nat.mod_lt _ (by decide)
  unfold zx at h1
  unfold zm at h2
  rw [e1, e2]
  generalize zs u % 2 ^ 52 = fu at *
  generalize zs v % 2 ^ 52 = fv at *
  generalize ze u = a at *
  generalize ze v = b at *
  clear e1 e2
  obtain ⟨H, hH⟩ : ∃ H, H = 2 ^ 52 := ⟨_, rfl⟩
  rw [← hH] at *
  clear hH
  by_cases ha : a = 0
  · by_cases hb : b = 0
    · rw [if_pos ha, if_pos hb] at h2
      rw [ha, hb, h2]
    · rw [if_pos ha, if_neg hb] at h2
      omega
  · by_cases hb : b = 0
    · rw [if_neg ha, if_pos hb] at h2
      omega
    · rw [if_neg ha, if_neg hb] at h1 h2
      have : a = b := by omega
      have h3 : fu = fv := by omega
      rw [this, h3]
theorem and3 (a b c : Int64) : (a &&& b) &&& c = (a &&& c) &&& (b &&& c) := by
  rw [Int64.and_assoc a c, Int64.and_comm b c, ← Int64.and_assoc c c b, Int64.and_self, Int64.and_comm c b, Int64.and_assoc]
theorem sg_and (a b : Bool) (h : ¬ a = b) : SG a &&& SG b = 0 := by cases a <;> cases b <;> first | exact absurd rfl h | decide
theorem z_00 {u : Nat} (hu : u < 2 ^ 64) (h : zs u = 0) : u = 0 ∨ u = 2 ^ 63 := by
  unfold zs at h
  have h5 : u / 2 ^ 63 < 2 := (Nat.div_lt_iff_lt_mul (by decide)).mpr hu
  have h3 := Nat.div_add_mod u (2 ^ 63)
  rw [h, Nat.add_zero] at h3
  rcases (show u / 2 ^ 63 = 0 ∨ u / 2 ^ 63 = 1 by clear h3 h hu; omega) with z | z
  · left; rw [z, Nat.mul_zero] at h3; exact h3.symm
  · right; rw [z, Nat.mul_one] at h3; exact h3.symm
theorem z_eq {u v : Nat} (hu : u < 2 ^ 64) (hv : v < 2 ^ 64) (h : zs u = zs v) (hs : sn u = sn v) : u = v := by
  have f : ∀ w, w < 2 ^ 64 → w = (if sn w then 2 ^ 63 else 0) + zs w := fun w hw => by
    have h5 : w / 2 ^ 63 < 2 := (Nat.div_lt_iff_lt_mul (by decide)).mpr hw
    have h3 := Nat.div_add_mod w (2 ^ 63)
    unfold zs sn
    by_cases h : 2 ^ 63 ≤ w
    · have h4 : 1 ≤ w / 2 ^ 63 := (Nat.le_div_iff_mul_le (by decide)).mpr (by rw [Nat.one_mul]; exact h)
      have h6 : w / 2 ^ 63 = 1 := by clear h3 h hw; omega
      rw [decide_eq_true h, if_pos rfl]
      rw [h6, Nat.mul_one] at h3
      exact h3.symm
    · rw [decide_eq_false h, if_neg (by decide), Nat.zero_add]
      exact (Nat.mod_eq_of_lt (Nat.lt_of_not_le h)).symm
  rw [f u hu, f v hv, h, hs]
theorem bne_d (a b : Bool) : decide (¬ (cond (a != b) (0 : Int32) 1).toInt = 0) = (a == b) := by cases a <;> cases b <;> decide
/-- the greater first -/
theorem sum_A {u v : Nat} {X Y : Int64} (hu : u < 2 ^ 64) (hv : v < 2 ^ 64) (hf : zs u ≠ 2047 * 2 ^ 52) (h : zs v ≤ zs u) (h0 : zs u ≠ 0) (hXY : X &&& Y = lN u &&& lN v) :
    t_Re_sum_37 X Y (cond (sn u != sn v) 0 1) (lN u) (lN v) = t_M_added_55 (lN u) (lN v) := by
  obtain ⟨o1, o2⟩ := z_ord h
  obtain ⟨d, hd⟩ : ∃ d : Nat, zx u - zx v = (d : Int) := ⟨(zx u - zx v).toNat, by clear hu hv hf; omega⟩
  rw [sum_37 hu hv hf h, bne_d, add_55 hu hv hd, hXY]
  have hsc : (zm u * 2 ^ (zx u - zx v).toNat) = zm u * 2 ^ d := by rw [hd, Int.toNat_natCast]
  unfold sumP
  rw [hsc] at o2 ⊢
  have hmu : zm u * 2 ^ d ≠ 0 := Nat.mul_ne_zero (fun z => h0 (z_m0 z)) (Nat.ne_of_gt (pw_pos d))
  by_cases hs : sn u = sn v
  · rw [if_pos hs, hs, beq_self_eq_true, if_pos rfl]
    have hP : zm u * 2 ^ d + zm v ≠ 0 := fun z => hmu (Nat.add_eq_zero_iff.mp z).1
    rw [if_neg hP, if_neg hP, sgn_and hu, Int64.or_comm, hs]
  · rw [if_neg hs, show (sn u == sn v) = false from beq_false_of_ne hs, if_neg (show ¬ (false = true) by decide), if_pos o2]
    by_cases hP : zm u * 2 ^ d - zm v = 0
    · rw [if_pos hP, if_pos hP, and3, sgn_and hu, sgn_and hv, sg_and _ _ hs]
    · rw [if_neg hP, if_neg hP, sgn_and hu, Int64.or_comm]
/-- the lesser first, in like places -/
theorem sum_B {u v : Nat} (hu : u < 2 ^ 64) (hv : v < 2 ^ 64) (h : zs u < zs v) (hx : zx u = zx v) : t_M_added_55 (lN v) (lN u) = t_M_added_55 (lN u) (lN v) := by
  obtain ⟨o1, o2⟩ := z_ord (Nat.le_of_lt h)
  have d1 : zx u - zx v = ((0 : Nat) : Int) := by rw [hx]; exact Int.sub_self _
  have d2 : zx v - zx u = ((0 : Nat) : Int) := by rw [hx]; exact Int.sub_self _
  rw [d2, Int.toNat_natCast, Nat.pow_zero, Nat.mul_one] at o2
  have hne : zm u ≠ zm v := fun z => Nat.ne_of_lt h (z_inj hx z)
  rw [add_55 hv hu d2, add_55 hu hv d1, Nat.pow_zero, Nat.mul_one, Nat.mul_one, hx]
  by_cases hs : sn u = sn v
  · rw [if_pos hs, if_pos hs.symm, hs, Nat.add_comm]
  · have hlt : zm u < zm v := Nat.lt_of_le_of_ne o2 hne
    rw [if_neg hs, if_neg (fun z => hs z.symm), if_pos o2, if_neg (Nat.not_le.mpr hlt), if_neg (Nat.sub_ne_zero_of_lt hlt)]
    congr 2
    revert hs
    cases sn u <;> cases sn v <;> intro hs <;> first | rfl | exact absurd rfl hs
theorem M_38 {u v : Nat} (hu : u < 2 ^ 64) (hv : v < 2 ^ 64) : t_M_added_38 (lN u) (lN v) = if zx v ≤ zx u then t_M_added_55 (lN u) (lN v) else t_M_added_55 (lN v) (lN u) := by
  unfold t_M_added_38 t_M_added_46
  rw [c2_ge, d_pow hu, d_pow hv, cd_if, cd_if, cd_if]
  split
  · rfl
  · rfl
theorem R_17 {u v : Nat} {w : Int32} (hu : u < 2 ^ 64) (hv : v < 2 ^ 64) : t_Re_sum_17 (lN u) (lN v) w = if zs u < zs v then t_Re_sum_37 (lN u) (lN v) w (lN v) (lN u) else t_Re_sum_37 (lN u) (lN v) w (lN u) (lN v) := by
  unfold t_Re_sum_17 t_Re_sum_27
  rw [show f_Re_size (lN u) = lN (zs u) from d_size hu, show f_Re_size (lN v) = lN (zs v) from d_size hv, lc_lt, yL_i (zs_lt u), yL_i (zs_lt v), dcg Int.ofNat_lt, cd_if, cd_if, cd_if]
  split
  · rfl
  · rfl
theorem sum_f {u v : Nat} (hu : u < 2 ^ 64) (hv : v < 2 ^ 64) (hfu : zs u < 2047 * 2 ^ 52) (hfv : zs v < 2047 * 2 ^ 52) (h0 : ¬ (zs u = 0 ∧ zs v = 0)) : t_Re_sum_17 (lN u) (lN v) (cond (sn u != sn v) 0 1) = t_M_added_38 (lN u) (lN v) := by
  rw [R_17 hu hv, M_38 hu hv]
  by_cases h : zs u < zs v
  · rw [if_pos h, show (sn u != sn v) = (sn v != sn u) from by cases sn u <;> cases sn v <;> rfl]
    rw [sum_A hv hu (Nat.ne_of_lt hfv) (Nat.le_of_lt h) (fun z => Nat.not_lt_zero _ (z ▸ h)) (Int64.and_comm _ _)]
    have o1 := (z_ord (Nat.le_of_lt h)).1
    by_cases hx : zx v ≤ zx u
    · rw [if_pos hx]
      exact sum_B hu hv h (Int.le_antisymm o1 hx)
    · rw [if_neg hx]
  · have h' := Nat.le_of_not_lt h
    rw [if_neg h, if_pos (z_ord h').1]
    exact sum_A hu hv (Nat.ne_of_lt hfu) h' (fun z => h0 ⟨z, Nat.le_zero.mp (z ▸ h')⟩) rfl
theorem s37_i {u v : Nat} {X Y : Int64} {w : Int32} (hu : u < 2 ^ 64) (hv : v < 2 ^ 64) (h : zs u = 2047 * 2 ^ 52) : t_Re_sum_37 X Y w (lN u) (lN v) = if zs v ≠ 2047 * 2 ^ 52 then lN u else if ¬ w.toInt = 0 then lN u else 9221120237041090560 := by
  unfold t_Re_sum_37
  rw [show f_Re_size (lN u) = lN (zs u) from d_size hu, show f_Re_size (lN v) = lN (zs v) from d_size hv, lc_ne, lc_ne, show (9218868437227405312 : Int64) = lN (2047 * 2 ^ 52) from by decide, dcg (not_congr (yL_inj (zs_64 u) (by decide))), dcg (not_congr (yL_inj (zs_64 v) (by decide))), cd_f (fun z => z h), c1_ne, cd_if, cd_if]
theorem z_and0 {u v : Nat} (hu : u < 2 ^ 64) (hv : v < 2 ^ 64) (h0 : zs u = 0 ∧ zs v = 0) : (lN u &&& lN v) &&& (-9223372036854775808) = lN u &&& lN v := by
  rcases z_00 hu h0.1 with z | z <;> rcases z_00 hv h0.2 with y | y <;> rw [z, y] <;> decide
theorem sum_0 {u v : Nat} {w : Int32} (hu : u < 2 ^ 64) (hv : v < 2 ^ 64) (iu : ¬ zs u = 2047 * 2 ^ 52) (h0 : zs u = 0 ∧ zs v = 0) : t_Re_sum_17 (lN u) (lN v) w = lN u &&& lN v := by
  rw [R_17 hu hv, if_neg (by rw [h0.1, h0.2]; exact Nat.lt_irrefl 0), sum_37 hu hv iu (by rw [h0.1, h0.2]; exact Nat.le_refl _)]
  have e : ∀ w, zs w = 0 → zm w = 0 := fun w hw => by
    unfold zm ze
    rw [hw, Nat.zero_div, Nat.zero_mod, if_pos rfl]
  have hP : ∀ b, sumP b u v = 0 := fun b => by
    unfold sumP
    rw [e u h0.1, e v h0.2, Nat.zero_mul]
    exact ite_self _
  rw [if_pos (hP _), z_and0 hu hv h0]
theorem sum_18 {u v : Nat} (hu : u < 2 ^ 64) (hv : v < 2 ^ 64) (nu : ¬ 2047 * 2 ^ 52 < zs u) (nv : ¬ 2047 * 2 ^ 52 < zs v) (hi : zs u = 2047 * 2 ^ 52 → zs v = 2047 * 2 ^ 52 → u = v) : t_Re_sum_17 (lN u) (lN v) (cond (sn u != sn v) 0 1) = t_M_added_18 (lN u) (lN v) := by
  have lu := Nat.le_of_not_lt nu
  have lv := Nat.le_of_not_lt nv
  unfold t_M_added_18
  rw [d_inf hu, d_inf hv, d_zero hu, d_zero hv, cn1_eq_b2i, cn1_eq_b2i, cn1_eq_b2i, cn1_eq_b2i]
  by_cases iu : zs u = 2047 * 2 ^ 52
  · rw [R_17 hu hv, if_neg (by rw [iu]; exact nv), s37_i hu hv iu, decide_eq_true iu, Bool.not_true, cond_false]
    by_cases iv : zs v = 2047 * 2 ^ 52
    · rw [if_neg (fun z => z iv), hi iu iv, bne_self_eq_false, cond_false, if_pos (by decide)]
    · rw [if_pos iv]
  · rw [decide_eq_false iu, Bool.not_false, cond_true]
    have fu : zs u < 2047 * 2 ^ 52 := Nat.lt_of_le_of_ne lu iu
    by_cases iv : zs v = 2047 * 2 ^ 52
    · rw [R_17 hu hv, if_pos (by rw [iv]; exact fu), s37_i hv hu iv, if_pos iu, decide_eq_true iv, Bool.not_true, cond_false]
    · rw [decide_eq_false iv, Bool.not_false, cond_true]
      have fv : zs v < 2047 * 2 ^ 52 := Nat.lt_of_le_of_ne lv iv
      by_cases h0 : zs u = 0 ∧ zs v = 0
      · rw [decide_eq_true h0.1, decide_eq_true h0.2, Bool.not_true, cond_false, cond_false]
        exact sum_0 hu hv iu h0
      · rw [sum_f hu hv fu fv h0]
        by_cases zu : zs u = 0
        · have zv : ¬ zs v = 0 := fun z => h0 ⟨zu, z⟩
          rw [decide_eq_true zu, decide_eq_false zv, Bool.not_true, Bool.not_false, cond_false, cond_true]
        · rw [decide_eq_false zu, Bool.not_false, cond_true]
theorem sum_added (x y : Int64) : f_Re_sum x y = f_M_added x y := by
  obtain ⟨u, hu, rfl⟩ := d_of x
  obtain ⟨v, hv, rfl⟩ := d_of y
  unfold f_Re_sum f_M_added
  rw [d_nan hu, d_nan hv, d_no hu, d_no hv, cn1_ne_b2i, cn1_ne_b2i, cn1_eq_b2i, sn_xor hu hv]
  by_cases nu : 2047 * 2 ^ 52 < zs u
  · rw [cd_t nu, cd_t nu]
  rw [cd_f nu, cd_f nu]
  by_cases nv : 2047 * 2 ^ 52 < zs v
  · rw [cd_t nv, decide_eq_true nv, Bool.not_true, cond_false]
  rw [cd_f nv, decide_eq_false nv, Bool.not_false, cond_true, cc2 (sn u != sn v) (fun z => t_Re_sum_17 (lN u) (lN v) z)]
  rw [d_inf hu, d_inf hv, cn1_eq_b2i, cn1_eq_b2i, lc_eq, dcg (yL_inj hu hv)]
  by_cases iu : zs u = 2047 * 2 ^ 52
  · rw [decide_eq_true iu, Bool.not_true, cond_false]
    by_cases iv : zs v = 2047 * 2 ^ 52
    · rw [decide_eq_true iv, Bool.not_true, cond_false]
      by_cases hs : u = v
      · rw [cd_t hs]
        exact sum_18 hu hv nu nv (fun _ _ => hs)
      · have hs' : ¬ sn u = sn v := fun z => hs (z_eq hu hv (iu.trans iv.symm) z)
        rw [cd_f hs, R_17 hu hv, if_neg (by rw [iu]; exact nv), s37_i hu hv iu, if_neg (fun z => z iv), show (sn u != sn v) = true from bne_iff_ne.mpr hs', cond_true, if_neg (by decide)]
    · rw [decide_eq_false iv, Bool.not_false, cond_true]
      exact sum_18 hu hv nu nv (fun _ z => absurd z iv)
  · rw [decide_eq_false iu, Bool.not_false, cond_true]
    exact sum_18 hu hv nu nv (fun z => absurd z iu)
