/-! REALS: OP 8 -/
theorem pk_lin0 {M e : Nat} (h1 : 1 ≤ e) (h2 : e ≤ 2046) (hM : 2 ^ 52 ≤ M) (hlt : M < 2 ^ 53) : pk 52 1023 M ((e : Int) - 1075) false = (e - 1) * 2 ^ 52 + M := by
  have hn : nb M = 53 := nb_eq (k := 52) hM hlt
  unfold pk
  rw [hn]
  clear hM hlt
  rw [if_neg (by omega), if_neg (show ¬ ((e : Int) - 1075 + ((53 : Nat) : Int) - 1 + ((1023 : Nat) : Int) < 1) by omega), if_pos (by decide)]
  rw [show ((e : Int) - 1075 + ((53 : Nat) : Int) - 1 + ((1023 : Nat) : Int) - 1).toNat = e - 1 by omega, show (-(((53 : Nat) : Int) - (((52 : Nat) : Int) + 1) + 0)).toNat = 0 from rfl, Nat.pow_zero, Nat.mul_one]
theorem lin_a (H e : Nat) (h1 : 1 ≤ e) : e * H + H = (e - 1) * H + H * 2 := by
  obtain ⟨j, hj⟩ : ∃ j, e = j + 1 := ⟨e - 1, (Nat.sub_add_cancel h1).symm⟩
  rw [hj, Nat.add_sub_cancel, Nat.add_mul, Nat.one_mul, Nat.mul_comm H 2, Nat.two_mul, Nat.add_assoc]
theorem lin_b {e : Nat} (h2 : e ≤ 2045) : pk 52 1023 (2 ^ 52 * 2 ^ 1) ((e : Int) - 1075) false = e * 2 ^ 52 + 2 ^ 52 := by
  have hl := pk_lin0 (M := 2 ^ 52) (e := e + 1) (Nat.le_add_left 1 e) (Nat.succ_le_succ h2) (Nat.le_refl _) (by decide)
  rw [pk_scale (p := 52) (B := 1023) (M := 2 ^ 52) (by decide) 1 ((e : Int) - 1075), show (e : Int) - 1075 + ((1 : Nat) : Int) = ((e + 1 : Nat) : Int) - 1075 by clear hl; omega, hl, Nat.add_sub_cancel]
theorem lin_c {M : Nat} (h : M = 2 ^ 53) : M = 2 ^ 52 * 2 ^ 1 := h.trans (by decide)
theorem pk_lin {M e : Nat} (h1 : 1 ≤ e) (h2 : e ≤ 2045) (hM : 2 ^ 52 ≤ M) (hM2 : M ≤ 2 ^ 53) : pk 52 1023 M ((e : Int) - 1075) false = (e - 1) * 2 ^ 52 + M := by
  rcases Nat.lt_or_eq_of_le hM2 with h | h
  · exact pk_lin0 h1 (Nat.le_succ_of_le h2) hM h
  · rw [lin_c h, lin_b h2, lin_a _ _ h1, Nat.pow_one]
/-- up or not: the mantissa's whole part q, its rest r of 2 to the k -/
def upB (h : Int32) (s : Bool) (q r k : Nat) : Bool :=
  if h = 3 then decide (2 ^ k < 2 * r ∨ (2 * r = 2 ^ k ∧ q % 2 = 1)) else if h = 1 then s else !s
/-- the class in the middle range -/
theorem wh_mid {u k : Nat} {h : Int32} {w0 : Int32} (hu : u < 2 ^ 64) (h1 : 1023 ≤ ze u) (h2 : ze u < 1075) (hk : k = 1075 - ze u) (hh : h = 1 ∨ h = 2 ∨ h = 3) (hw : w0 = (if h = 3 then 0 else cond (upB h (sn u) 0 0 0) 1 0)) :
    t_Re_whole_28 h (lN u) (f_Re_field (lN u)) (lN u &&& (-9223372036854775808 : Int64)) w0 = lN (u - u % 2 ^ k + (if u % 2 ^ k ≠ 0 ∧ upB h (sn u) (u / 2 ^ k) (u % 2 ^ k) k = true then 2 ^ k else 0)) := by
  have hk1 : 1 ≤ k := by omega
  have hk2 : k ≤ 52 := by omega
  have hf := d_fld hu
  have zu : ¬ zs u = 0 := fun z => by
    unfold ze at h1
    rw [z, Nat.zero_div] at h1
    exact absurd h1 (by decide)
  unfold t_Re_whole_28
  have e1 : ((1075 : Int32) - f_Re_field (lN u)).toInt = (k : Int) := by
    rw [i_subn (show ((1075 : Int32).toInt) = 1075 from rfl) hf (by clear hu; omega) (by clear hu; omega) (by clear hu; omega) (by clear hu; omega)]
    clear hu
    omega
  have hk64 : k < 64 := by clear hu; omega
  have hr64 : u % 2 ^ k < 2 ^ 64 := Nat.lt_of_le_of_lt (Nat.mod_le _ _) hu
  have hkp : (2 : Nat) ^ k ≤ 2 ^ 52 := Nat.pow_le_pow_right (by decide) hk2
  have hr52 : u % 2 ^ k < 2 ^ 52 := Nat.lt_of_lt_of_le (Nat.mod_lt _ (pw_pos k)) hkp
  have hone : (1 : Int64) <<< (Int32.toInt64 ((1075 : Int32) - f_Re_field (lN u)) &&& 63) = lN (2 ^ k) := by
    rw [show (1 : Int64) = lN 1 from rfl, yL_shl e1 hk64, Nat.one_mul]
  have hmsk : lN (2 ^ k) - (1 : Int64) = lN (2 ^ k - 1) := by rw [show (1 : Int64) = lN 1 from rfl, yL_sub (pw_pos k)]
  have hle : u % 2 ^ k ≤ u := Nat.mod_le _ _
  have hhalf : lN (2 ^ k) / (2 : Int64) = lN (2 ^ k / 2) := by
    rw [show (2 : Int64) = lN 2 from rfl, yL_div (Nat.lt_of_le_of_lt hkp (by decide)) (by decide)]
  rw [show f_Re_size (lN u) = lN (zs u) from d_size hu, show cn1 .eq (lg_cmp (lN (zs u)) (0 : Int64)) = decide (zs u = 0) from by rw [lc_eq, show (0 : Int64) = lN 0 from rfl, dcg (yL_inj (zs_64 u) (by decide))], df zu, cond_false, c2_lt, c2_ge, hf, show ((1075 : Int32).toInt) = 1075 from rfl, show ((1023 : Int32).toInt) = 1023 from rfl, cd_t (by clear hu; omega), cd_t (by clear hu; omega), hone, hmsk, yL_and hk64 hu, yL_sub hle, hhalf]
  have h100 : ∀ w : Int32, t_Re_whole_100 w (lN (2 ^ k)) (lN (u % 2 ^ k)) (lN (u - u % 2 ^ k)) = lN (u - u % 2 ^ k + (if u % 2 ^ k ≠ 0 ∧ ¬ w.toInt = 0 then 2 ^ k else 0)) := fun w => by
    unfold t_Re_whole_100
    rw [c1_eq, lc_eq, show (0 : Int64) = lN 0 from rfl, dcg (yL_inj hr64 (by decide)), yL_add]
    by_cases hw : w.toInt = 0
    · rw [cd_t hw, if_neg (fun z => z.2 hw), Nat.add_zero]
    · rw [cd_f hw]
      by_cases hz : u % 2 ^ k = 0
      · rw [cd_t hz, if_neg (fun z => z.1 hz), Nat.add_zero]
      · rw [cd_f hz, if_pos ⟨hz, hw⟩]
  have fin : ∀ w : Int32, ((¬ w.toInt = 0) ↔ upB h (sn u) (u / 2 ^ k) (u % 2 ^ k) k = true) → t_Re_whole_100 w (lN (2 ^ k)) (lN (u % 2 ^ k)) (lN (u - u % 2 ^ k)) = lN (u - u % 2 ^ k + (if u % 2 ^ k ≠ 0 ∧ upB h (sn u) (u / 2 ^ k) (u % 2 ^ k) k = true then 2 ^ k else 0)) := fun w hw => by
    rw [h100, ite_cg (and_congr Iff.rfl hw)]
  by_cases h3 : h = 3
  · rw [show cn2 .ne h (3 : Int32) = false from by rw [h3]; rfl, cond_false]
    unfold t_Re_whole_96 t_Re_whole_98 t_Re_whole_99
    have hup : upB h (sn u) (u / 2 ^ k) (u % 2 ^ k) k = decide (2 ^ k < 2 * (u % 2 ^ k) ∨ (2 * (u % 2 ^ k) = 2 ^ k ∧ u / 2 ^ k % 2 = 1)) := by unfold upB; rw [if_pos h3]
    have hpe := pw_half hk1
    have hP63 : (2 : Nat) ^ k / 2 < 2 ^ 63 := Nat.lt_of_le_of_lt (Nat.div_le_self _ _) (Nat.lt_of_le_of_lt hkp (by decide))
    have hr63 : u % 2 ^ k < 2 ^ 63 := Nat.lt_trans hr52 (by decide)
    have hbit : (lN (u - u % 2 ^ k) &&& lN (2 ^ k) = 0) ↔ u / 2 ^ k % 2 = 0 := by
      have hx : u - u % 2 ^ k = u / 2 ^ k * 2 ^ k := by
        have := Nat.div_add_mod' u (2 ^ k)
        clear hu hr64 hkp hr52 hP63 hr63 hpe
        omega
      have hlt : u - u % 2 ^ k < 2 ^ 64 := Nat.lt_of_le_of_lt (Nat.sub_le _ _) hu
      rw [wb_and hlt (Nat.lt_of_le_of_lt hkp (by decide)), hx]
      have h9 : u / 2 ^ k * 2 ^ k &&& 2 ^ k = (u / 2 ^ k % 2) * 2 ^ k := by
        have t1 : (u / 2 ^ k * 2 ^ k &&& 2 ^ k) / 2 ^ k = u / 2 ^ k % 2 := by
          rw [Nat.and_div_two_pow, Nat.mul_div_cancel _ (pw_pos k), Nat.div_self (pw_pos k), show (1 : Nat) = 2 ^ 1 - 1 from rfl, Nat.and_two_pow_sub_one_eq_mod, Nat.pow_one]
        have t2 : (u / 2 ^ k * 2 ^ k &&& 2 ^ k) % 2 ^ k = 0 := by rw [Nat.and_mod_two_pow, Nat.mod_self, Nat.and_zero]
        have t3 := Nat.div_add_mod' (u / 2 ^ k * 2 ^ k &&& 2 ^ k) (2 ^ k)
        rw [t1, t2, Nat.add_zero] at t3
        exact t3.symm
      rw [h9, show (0 : Int64) = lN 0 from rfl]
      have hl2 : u / 2 ^ k % 2 * 2 ^ k < 2 ^ 64 := by
        have : u / 2 ^ k % 2 ≤ 1 := by have := Nat.mod_lt (u / 2 ^ k) (show 0 < 2 by decide); clear hu hr64 hkp hr52 hP63 hr63 hpe hlt; omega
        exact Nat.lt_of_le_of_lt (Nat.mul_le_mul this hkp) (by decide)
      refine (yL_inj hl2 (by decide)).trans ⟨fun z => (Nat.mul_eq_zero.mp z).resolve_right (Nat.ne_of_gt (pw_pos k)), fun z => by rw [z, Nat.zero_mul]⟩
    rw [lc_gt, lc_ne, lc_eq, yL_i hr63, yL_i hP63, dcg Int.ofNat_lt, dcg (not_congr (yL_inj hr64 (lt64 hP63))), dcg hbit]
    have hq := Nat.mod_lt (u / 2 ^ k) (show 0 < 2 by decide)
    by_cases g1 : 2 ^ k / 2 < u % 2 ^ k
    · rw [cd_t g1]
      refine fin 1 ⟨fun _ => ?_, fun _ => by decide⟩
      rw [hup]
      exact dt (Or.inl (by clear hu hr64 hkp hr52 hP63 hr63 hbit hup; omega))
    · rw [cd_f g1]
      by_cases g2 : u % 2 ^ k = 2 ^ k / 2
      · rw [cd_f (fun z => z g2)]
        by_cases g3 : u / 2 ^ k % 2 = 0
        · rw [cd_t g3]
          refine fin 0 ⟨fun z => absurd rfl z, fun z => ?_⟩
          rw [hup] at z
          have := of_decide_eq_true z
          clear hu hr64 hkp hr52 hP63 hr63 hbit hup z
          omega
        · rw [cd_f g3]
          refine fin 1 ⟨fun _ => ?_, fun _ => by decide⟩
          rw [hup]
          exact dt (Or.inr (by clear hu hr64 hkp hr52 hP63 hr63 hbit hup; omega))
      · rw [cd_t g2]
        refine fin 0 ⟨fun z => absurd rfl z, fun z => ?_⟩
        rw [hup] at z
        have := of_decide_eq_true z
        clear hu hr64 hkp hr52 hP63 hr63 hbit hup z
        omega
  · have hne : cn2 .ne h (3 : Int32) = true := by unfold cn2; simp [h3]
    rw [hne, cond_true]
    refine fin _ ?_
    rw [hw, if_neg h3]
    have : upB h (sn u) (u / 2 ^ k) (u % 2 ^ k) k = upB h (sn u) 0 0 0 := by unfold upB; rw [if_neg h3, if_neg h3]
    rw [this]
    cases upB h (sn u) 0 0 0 <;> decide
/-- the class below one -/
theorem wh_low {u : Nat} {h : Int32} {w0 : Int32} (hu : u < 2 ^ 64) (h1 : ze u < 1023) (zu : ¬ zs u = 0) (hw : w0 = (if h = 3 then 0 else cond (upB h (sn u) 0 0 0) 1 0)) :
    t_Re_whole_28 h (lN u) (f_Re_field (lN u)) (lN u &&& (-9223372036854775808 : Int64)) w0 = SG (sn u) ||| (if (if h = 3 then decide (1022 * 2 ^ 52 < zs u) else upB h (sn u) 0 0 0) = true then lN (1023 * 2 ^ 52) else 0) := by
  have hf := d_fld hu
  unfold t_Re_whole_28 t_Re_whole_53
  rw [show f_Re_size (lN u) = lN (zs u) from d_size hu, show cn1 .eq (lg_cmp (lN (zs u)) (0 : Int64)) = decide (zs u = 0) from by rw [lc_eq, show (0 : Int64) = lN 0 from rfl, dcg (yL_inj (zs_64 u) (by decide))], df zu, cond_false, c2_lt, c2_ge, hf, show ((1075 : Int32).toInt) = 1075 from rfl, show ((1023 : Int32).toInt) = 1023 from rfl, cd_t (by clear hu; omega), cd_f (by clear hu; omega), sgn_and hu, lc_le, yL_i (zs_lt u), show ((4602678819172646912 : Int64).toInt) = ((1022 * 2 ^ 52 : Nat) : Int) from by decide, dcg Int.ofNat_le, show (4607182418800017408 : Int64) = lN (1023 * 2 ^ 52) from by decide]
  by_cases h3 : h = 3
  · rw [hw, if_pos h3, if_pos h3, show cn1 .ne (0 : Int32) = false from rfl, cond_false, show cn2 .ne h (3 : Int32) = false from by rw [h3]; rfl, cond_false]
    by_cases hz : zs u ≤ 1022 * 2 ^ 52
    · rw [cd_t hz, df (Nat.not_lt.mpr hz), if_neg (by decide), Int64.or_zero]
    · rw [cd_f hz, dt (Nat.lt_of_not_le hz), if_pos rfl]
  · rw [hw, if_neg h3, if_neg h3, show cn2 .ne h (3 : Int32) = true from by unfold cn2; simp [h3], cond_true]
    cases upB h (sn u) 0 0 0
    · rw [cond_false, show cn1 .ne (0 : Int32) = false from rfl, cond_false, if_neg (by decide), Int64.or_zero]
    · rw [cond_true, show cn1 .ne (1 : Int32) = true from rfl, cond_true, if_pos rfl]
theorem wh_top {u : Nat} {h : Int32} {w0 : Int32} {v4 : Int64} (hu : u < 2 ^ 64) (h1 : 1075 ≤ ze u ∨ zs u = 0) : t_Re_whole_28 h (lN u) (f_Re_field (lN u)) v4 w0 = f_Re_plain (lN u) := by
  have hf := d_fld hu
  unfold t_Re_whole_28 t_Re_whole_37
  rw [show f_Re_size (lN u) = lN (zs u) from d_size hu, show cn1 .eq (lg_cmp (lN (zs u)) (0 : Int64)) = decide (zs u = 0) from by rw [lc_eq, show (0 : Int64) = lN 0 from rfl, dcg (yL_inj (zs_64 u) (by decide))]]
  by_cases zu : zs u = 0
  · rw [dt zu, cond_true]
  · rw [df zu, cond_false, c2_lt, hf, show ((1075 : Int32).toInt) = 1075 from rfl, cd_f (by have := h1.resolve_right zu; clear hu; omega)]
theorem wh_any {u : Nat} {h : Int32} (hu : u < 2 ^ 64) (hh : h = 1 ∨ h = 2 ∨ h = 3) : f_Re_whole h (lN u) = t_Re_whole_28 h (lN u) (f_Re_field (lN u)) (lN u &&& (-9223372036854775808 : Int64)) (if h = 3 then 0 else cond (upB h (sn u) 0 0 0) 1 0) := by
  unfold f_Re_whole t_Re_whole_27 upB
  have g : ∀ b : Bool, (SG b = 0) ↔ b = false := fun b => by cases b <;> decide
  rw [sgn_and hu, lc_ne, lc_eq, dcg (not_congr (g _)), dcg (g _)]
  rcases hh with z | z | z
  · rw [z, show cn2 .ne (1 : Int32) (1 : Int32) = false from rfl, cond_false, if_neg (by decide), if_neg (by decide), if_pos rfl]
    cases sn u <;> rfl
  · rw [z, show cn2 .ne (2 : Int32) (1 : Int32) = true from rfl, show cn2 .ne (2 : Int32) (2 : Int32) = false from rfl, cond_true, cond_false, if_neg (by decide), if_neg (by decide), if_neg (by decide)]
    cases sn u <;> rfl
  · rw [z, show cn2 .ne (3 : Int32) (1 : Int32) = true from rfl, show cn2 .ne (3 : Int32) (2 : Int32) = true from rfl, cond_true, cond_true, if_pos rfl]
/-! the reference -/
theorem ev_low {u : Nat} {h : Int32} (hu : u < 2 ^ 64) (h1 : ze u < 1023) (zu : ¬ zs u = 0) (hh : h = 1 ∨ h = 2 ∨ h = 3) :
    f_M_even (lN u) h = (if (if h = 3 then decide (1022 * 2 ^ 52 < zs u) else upB h (sn u) 0 0 0) = true then lN (1023 * 2 ^ 52) else 0) ||| SG (sn u) := by
  have hx : zx u ≤ -53 := by unfold zx; clear hu; split <;> omega
  have hxb := zx_b u
  have mu := z_m1 zu
  have ml := zm_lt u
  have hp := d_pow hu
  have m64 : zm u < 2 ^ 64 := Nat.lt_trans ml (by decide)
  have nn : ¬ 2047 * 2 ^ 52 < zs u := by
    intro z
    have : 2047 ≤ ze u := (Nat.le_div_iff_mul_le (by decide)).mpr (Nat.le_of_lt z)
    clear hu z ml
    omega
  have ni : ¬ zs u = 2047 * 2 ^ 52 := by
    intro z
    have : ze u = 2047 := by unfold ze; rw [z, Nat.mul_div_cancel _ (by decide)]
    clear hu z ml nn
    omega
  have hnp := i_negy hp (by clear hu ml nn ni m64; omega) (by clear hu ml nn ni m64; omega)
  unfold f_M_even
  rw [d_no hu, d_inf hu, d_zero hu, cn1_ne_b2i, cn1_ne_b2i, cn1_ne_b2i, df nn, df ni, df zu, cond_false, cond_false, cond_false, c1_lt, hp, cd_t (by clear hu ml nn ni m64; omega), c2_le, hnp, show ((53 : Int32).toInt) = 53 from rfl, d_manM hu]
  have t79 : ∀ w : Int32, t_M_even_100 (lN u) 0 w = (if ¬ w.toInt = 0 then lN (1023 * 2 ^ 52) else 0) ||| SG (sn u) := fun w => by
    unfold t_M_even_100 t_M_even_106 t_M_even_118
    rw [c1_eq, sgn_and hu, show cn1 .ne (lg_cmp (0 : Int64) 0) = false from by decide, cond_false, show cn1 .ne (lg_cmp ((0 : Int64) + 1) 0) = true from by decide, cond_true, show (0 : Int64) + 1 = lN 1 from by decide, packed_pk (p := 52) (B := 1023) rfl rfl (Or.inl ⟨rfl, rfl⟩) (by decide) (by decide) (by decide)]
    have e1 : pk 52 1023 1 (0 : Int32).toInt (decide (¬ (0 : Int32).toInt = 0)) = 1023 * 2 ^ 52 := by
      have hs := pk_scale (p := 52) (B := 1023) (M := 1) (by decide) 52 (((1023 : Nat) : Int) - 1075)
      rw [Nat.one_mul, pk_lin0 (M := 2 ^ 52) (e := 1023) (by decide) (by decide) (Nat.le_refl _) (by decide)] at hs
      refine hs.symm.trans ?_
      decide
    rw [e1]
    by_cases hw : w.toInt = 0
    · rw [cd_t hw, if_neg (fun z => z hw)]
    · rw [cd_f hw, if_pos hw]
  have h41 : ∀ (v6 : Int32) (m : Nat), m ≠ 0 → m < 2 ^ 53 → (h = 3 → cond (cn2 .le v6 (53 : Int32)) (t_M_even_61 (lN u) 0 (lN m) ((1 : Int64) <<< (Int32.toInt64 (v6 - (1 : Int32)) &&& 63))) (t_M_even_61 (lN u) 0 (lN m) 2) = t_M_even_100 (lN u) 0 (cond (decide (1022 * 2 ^ 52 < zs u)) 1 0)) → t_M_even_41 (lN u) h v6 0 (lN m) = (if (if h = 3 then decide (1022 * 2 ^ 52 < zs u) else upB h (sn u) 0 0 0) = true then lN (1023 * 2 ^ 52) else 0) ||| SG (sn u) := fun v6 m hm hm2 hc => by
    unfold t_M_even_41
    rw [lc_ne, show (0 : Int64) = lN 0 from rfl, dcg (not_congr (yL_inj (Nat.lt_trans hm2 (by decide)) (by decide))), cd_t hm, show lN 0 = (0 : Int64) from rfl]
    have hb : ∀ b : Bool, (¬ (cond b (1 : Int32) 0).toInt = 0) ↔ b = true := fun b => by cases b <;> decide
    by_cases h3 : h = 3
    · rw [if_pos h3, show cn2 .ne h (3 : Int32) = false from by rw [h3]; rfl, cond_false, hc h3, t79, ite_cg (hb _)]
    · rw [if_neg h3, show cn2 .ne h (3 : Int32) = true from by unfold cn2; simp [h3], cond_true]
      unfold t_M_even_99 upB
      rw [if_neg h3, lc_lt, show ((0 : Int64).toInt) = 0 from rfl, dcg (d_neg hu), sn_ge hu, t79, t79]
      by_cases hh1 : h = 1
      · rw [if_pos hh1, show cn2 .ne h (1 : Int32) = false from by rw [hh1]; rfl, cond_false]
        cases sn u <;> rfl
      · rw [if_neg hh1, show cn2 .ne h (1 : Int32) = true from by unfold cn2; simp [hh1], cond_true]
        rw [show decide (2 ^ 63 ≤ u) = sn u from rfl]
        cases sn u <;> rfl
  unfold t_M_even_30
  rw [c2_le, hnp, show ((53 : Int32).toInt) = 53 from rfl]
  by_cases h53 : -zx u ≤ 53
  · have ex : zx u = -53 := by clear hu ml nn ni m64 t79 h41; omega
    have ez : ze u = 1022 := by unfold zx at ex; clear hu ml nn ni m64 t79 h41; split at ex <;> omega
    have hk : (-(f_M_power (lN u))).toInt = ((53 : Nat) : Int) := by rw [hnp, ex]; rfl
    rw [cd_t h53, cd_t h53, yL_shr hk (by decide) m64, Nat.div_eq_of_lt ml, yL_shl hk (by decide), Nat.zero_mul, yL_sub (Nat.zero_le _), Nat.sub_zero]
    refine h41 _ _ mu ml (fun _ => ?_)
    rw [c2_le, hk, show ((53 : Int32).toInt) = 53 from rfl, cd_t (by decide)]
    have h52 : (1 : Int64) <<< (Int32.toInt64 (-(f_M_power (lN u)) - (1 : Int32)) &&& 63) = lN (2 ^ 52) := by
      rw [show (1 : Int64) = lN 1 from rfl, yL_shl (k := 52) (i_subn hk (show ((1 : Int32).toInt) = 1 from rfl) (by decide) (by decide) (by decide) (by decide)) (by decide), Nat.one_mul]
    have ezm : zs u = 1021 * 2 ^ 52 + zm u := by
      have e := zs_eq u
      rw [ez] at e
      unfold zm
      rw [if_neg (by rw [ez]; decide), e, ← e]
      clear hu ml nn ni m64 t79 h41 h52 h1
      obtain ⟨f, hf⟩ : ∃ f, f = zs u % 2 ^ 52 := ⟨_, rfl⟩
      rw [← hf] at e ⊢
      rw [e, Nat.add_left_comm, Nat.add_comm f, ← Nat.succ_mul]
    have hlo : 2 ^ 52 ≤ zm u := z_n0 (by rw [ez]; decide)
    rw [h52]
    unfold t_M_even_61 t_M_even_76 t_M_even_78 t_M_even_79
    rw [lc_gt, yL_i (Nat.lt_trans ml (by decide)), yL_i (by decide), dcg Int.ofNat_lt, show ((0 : Int64) &&& (1 : Int64)) = 0 from by decide, show cn1 .ne (lg_cmp (0 : Int64) 1) = true from by decide, cond_true]
    have hiff : 1022 * 2 ^ 52 < zs u ↔ 2 ^ 52 < zm u := by
      rw [ezm, show 1022 * 2 ^ 52 = 1021 * 2 ^ 52 + 2 ^ 52 by decide]
      exact Nat.add_lt_add_iff_left
    rw [dcg hiff]
    by_cases hg : 2 ^ 52 < zm u
    · rw [cd_t hg, dt hg, cond_true]
    · rw [cd_f hg, df hg, cond_false]
      cases (cn1 .ne (lg_cmp (lN (zm u)) (lN (2 ^ 52)))) <;> rfl
  · rw [cd_f h53, cd_f h53]
    refine h41 _ 1 (by decide) (by decide) (fun _ => ?_)
    rw [c2_le, hnp, show ((53 : Int32).toInt) = 53 from rfl, cd_f h53]
    have : ¬ 1022 * 2 ^ 52 < zs u := fun z => by
      have h9 : 1022 ≤ ze u := (Nat.le_div_iff_mul_le (by decide)).mpr (Nat.le_of_lt z)
      have h8 : zx u = (ze u : Int) - 1075 := by unfold zx; rw [if_neg (by clear hu ml nn ni m64 t79 h41 z; omega)]
      clear hu ml nn ni m64 t79 h41 z
      omega
    rw [df this, cond_false]
    unfold t_M_even_61 t_M_even_76 t_M_even_78 t_M_even_79
    rfl
