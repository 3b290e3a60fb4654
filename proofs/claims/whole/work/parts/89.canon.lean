/-! REALS: what comes out is never another NaN -/
theorem kp_of {u : Nat} (hu : u < 2 ^ 64) (h : zs u ≤ 2047 * 2 ^ 52) : f_M_kept (lN u) = lN u := by
  unfold f_M_kept
  rw [d_no hu, cn1_eq_b2i, df (Nat.not_lt.mpr h), Bool.not_false, cond_true]
theorem kp_nan : f_M_kept (9221120237041090560 : Int64) = 9221120237041090560 := by unfold f_M_kept; cases (cn1 .eq (b2i (f_M_isNo 9221120237041090560))) <;> rfl
theorem kp_inv {u : Nat} (hu : u < 2 ^ 64) (hk : f_M_kept (lN u) = lN u) : zs u ≤ 2047 * 2 ^ 52 ∨ lN u = 9221120237041090560 := by
  unfold f_M_kept at hk
  rw [d_no hu, cn1_eq_b2i] at hk
  by_cases nu : 2047 * 2 ^ 52 < zs u
  · rw [dt nu, Bool.not_true, cond_false] at hk
    exact Or.inr hk.symm
  · exact Or.inl (Nat.le_of_not_lt nu)
theorem zs_sg {k : Nat} {b : Bool} (hk : k < 2 ^ 63) : ∃ u, u < 2 ^ 64 ∧ lN k ||| SG b = lN u ∧ zs u = k := by
  cases b
  · exact ⟨k, lt64 hk, by rw [show SG false = 0 from rfl]; exact Int64.or_zero, Nat.mod_eq_of_lt hk⟩
  · have h : k + 1 * 2 ^ 63 < 2 ^ 64 := Nat.lt_of_lt_of_le (Nat.add_lt_add_right hk _) (by decide)
    refine ⟨k + 1 * 2 ^ 63, h, ?_, ?_⟩
    · rw [show SG true = lN (1 * 2 ^ 63) from by decide]
      exact g_or' (k := 63) rfl hk h
    · unfold zs
      rw [Nat.add_mul_mod_self_right, Nat.mod_eq_of_lt hk]
theorem kp_sg {k : Nat} {b : Bool} (hk : k ≤ 2047 * 2 ^ 52) : f_M_kept (lN k ||| SG b) = lN k ||| SG b := by
  obtain ⟨u, h1, h2, h3⟩ := zs_sg (b := b) (Nat.lt_of_le_of_lt hk (by decide))
  rw [h2]
  exact kp_of h1 (by rw [h3]; exact hk)
theorem rne_le (M b : Nat) (st : Bool) : rne M b st ≤ M / 2 ^ b + 1 := by
  unfold rne
  split
  · exact Nat.le_refl _
  · exact Nat.le_succ _
theorem pk_lx (M : Nat) (E : Int) (st : Bool) (h0 : M ≠ 0) : pk 52 1023 M E st ≤ 2047 * 2 ^ 52 := by
  have hb := nb_1 M
  have hl := nb_lt M
  unfold pk
  obtain ⟨F, hF⟩ : ∃ F : Int, F = E + nb M - 1 + ((1023 : Nat) : Int) := ⟨_, rfl⟩
  rw [← hF]
  by_cases h1 : (2 * ((1023 : Nat) : Int)) < F
  · rw [if_pos h1]
    exact Nat.le_refl _
  · rw [if_neg h1]
    have hT : (F - 1).toNat ≤ 2045 := by clear hl; omega
    have hQ : (F - 1).toNat * 2 ^ 52 ≤ 2045 * 2 ^ 52 := Nat.mul_le_mul_right _ hT
    have fin : ∀ x, x ≤ 2 ^ 53 → (F - 1).toNat * 2 ^ 52 + x ≤ 2047 * 2 ^ 52 := fun x hx => Nat.le_trans (Nat.add_le_add hQ hx) (by decide)
    obtain ⟨G, hG⟩ : ∃ G : Int, G = (if F < 1 then 1 - F else 0) := ⟨_, rfl⟩
    have hG0 : 0 ≤ G := by rw [hG]; clear hl hQ fin; split <;> omega
    rw [← hG]
    by_cases h2 : (nb M : Int) - (((52 : Nat) : Int) + 1) + G ≤ 0
    · rw [if_pos h2]
      refine fin _ ?_
      have : M * 2 ^ (-((nb M : Int) - (((52 : Nat) : Int) + 1) + G)).toNat ≤ 2 ^ nb M * 2 ^ (-((nb M : Int) - (((52 : Nat) : Int) + 1) + G)).toNat := Nat.mul_le_mul_right _ (Nat.le_of_lt hl)
      refine Nat.le_trans this ?_
      rw [← pw_add]
      exact Nat.pow_le_pow_right (by decide) (by clear hl hQ fin this; omega)
    · rw [if_neg h2]
      refine fin _ (Nat.le_trans (rne_le _ _ _) ?_)
      obtain ⟨b, hb'⟩ : ∃ b, b = ((nb M : Int) - (((52 : Nat) : Int) + 1) + G).toNat := ⟨_, rfl⟩
      rw [← hb']
      refine Nat.succ_le_of_lt ((Nat.div_lt_iff_lt_mul (pw_pos b)).mpr ?_)
      rw [← pw_add]
      exact Nat.lt_of_lt_of_le hl (Nat.pow_le_pow_right (by decide) (by clear hl hQ fin; omega))
theorem kp_pk {M : Nat} {E : Int} {st b : Bool} (h0 : M ≠ 0) : f_M_kept (lN (pk 52 1023 M E st) ||| SG b) = lN (pk 52 1023 M E st) ||| SG b := kp_sg (pk_lx M E st h0)
theorem kp_0 {b : Bool} : f_M_kept (SG b) = SG b := by
  have := kp_sg (k := 0) (b := b) (Nat.zero_le _)
  rw [show lN 0 ||| SG b = SG b from by cases b <;> decide] at this
  exact this
theorem kp_i {b : Bool} : f_M_kept (SG b ||| 9218868437227405312) = SG b ||| 9218868437227405312 := by
  have := kp_sg (k := 2047 * 2 ^ 52) (b := b) (Nat.le_refl _)
  rw [Int64.or_comm, show lN (2047 * 2 ^ 52) = (9218868437227405312 : Int64) from by decide] at this
  exact this
/-- a property of both ends of a branch -/
theorem cdP {α : Type} {P : α → Prop} (b : Bool) {x y : α} (h1 : b = true → P x) (h2 : b = false → P y) : P (cond b x y) := by
  cases b
  · exact h2 rfl
  · exact h1 rfl
theorem sg_an (a b : Bool) : SG a &&& SG b = SG (a && b) := by cases a <;> cases b <;> decide
def KP (x : Int64) : Prop := f_M_kept x = x
theorem kp_sum (x y : Int64) : KP (f_Re_sum x y) := by
  obtain ⟨u, hu, rfl⟩ := d_of x
  obtain ⟨v, hv, rfl⟩ := d_of y
  unfold f_Re_sum
  rw [d_nan hu, d_nan hv, cn1_ne_b2i, cn1_eq_b2i, sn_xor hu hv]
  refine cdP _ (fun _ => kp_nan) (fun nu => cdP _ (fun nv => ?_) (fun _ => kp_nan))
  have lu := Nat.le_of_not_lt (of_decide_eq_false nu)
  have lv : zs v ≤ 2047 * 2 ^ 52 := by
    refine Nat.le_of_not_lt fun z => ?_
    rw [dt z] at nv
    exact absurd nv (by decide)
  rw [cc2 (sn u != sn v) (fun z => t_Re_sum_17 (lN u) (lN v) z), R_17 hu hv]
  generalize (cond (sn u != sn v) (0 : Int32) 1) = w
  have g : ∀ a b, a < 2 ^ 64 → b < 2 ^ 64 → zs b ≤ zs a → zs a ≤ 2047 * 2 ^ 52 → KP (t_Re_sum_37 (lN u) (lN v) w (lN a) (lN b)) := fun a b ha hb hab hla => by
    by_cases hi : zs a = 2047 * 2 ^ 52
    · rw [s37_i ha hb hi]
      split
      · exact kp_of ha hla
      · split
        · exact kp_of ha hla
        · exact kp_nan
    · rw [sum_37 ha hb hi hab]
      split
      · rw [and3, sgn_and hu, sgn_and hv]
        rw [sg_an]
        exact kp_0
      · next h => rw [sgn_and ha, Int64.or_comm]; exact kp_pk h
  by_cases h : zs u < zs v
  · rw [if_pos h]
    exact g v u hv hu (Nat.le_of_lt h) lv
  · rw [if_neg h]
    exact g u v hu hv (Nat.le_of_not_lt h) lu
theorem kp_product (x y : Int64) : KP (f_Re_product x y) := by
  obtain ⟨u, hu, rfl⟩ := d_of x
  obtain ⟨v, hv, rfl⟩ := d_of y
  unfold f_Re_product
  rw [sx_and hu hv, show f_Re_size (lN u) = lN (zs u) from d_size hu, show f_Re_size (lN v) = lN (zs v) from d_size hv, zc_0, show cn1 .eq (lg_cmp (lN (zs u)) (0 : Int64)) = decide (zs u = 0) from by rw [lc_eq, show (0 : Int64) = lN 0 from rfl, dcg (yL_inj (zs_64 u) (by decide))]]
  generalize (sn u != sn v) = b
  have h38 : ∀ w, KP (t_Re_product_38 (SG b) w) := fun w => cdP _ (fun _ => kp_i) (fun _ => kp_nan)
  have h24 : KP (t_Re_product_24 (lN u) (lN v) (SG b)) := by
    unfold t_Re_product_24 t_Re_product_27
    refine cdP _ (fun _ => h38 _) (fun _ => cdP _ (fun _ => ?_) (fun _ => h38 _))
    rw [show cn1 .eq (1 : Int32) = false from rfl, cond_false]
    exact kp_0
  refine cdP _ (fun _ => kp_nan) (fun _ => cdP _ (fun _ => ?_) (fun _ => kp_nan))
  refine cdP _ (fun _ => h24) (fun zu => cdP _ (fun zv => ?_) (fun _ => h24))
  unfold t_Re_product_27
  refine cdP _ (fun _ => h38 _) (fun _ => cdP _ (fun _ => ?_) (fun _ => h38 _))
  rw [show cn1 .eq (0 : Int32) = true from rfl, cond_true]
  have mu := z_m1 (of_decide_eq_false zu)
  have mv : zm v ≠ 0 := z_m1 (fun z => by rw [dt z] at zv; exact absurd zv (by decide))
  have gu := zg_lt (u := u)
  have gv := zg_lt (u := v)
  rw [d_manR hu, d_manR hv, d_zn mu, d_zn mv, low27 (Nat.lt_trans (zn_b mu).2 (by decide)), low27 (Nat.lt_trans (zn_b mv).2 (by decide)), yL_mul, mul_76 hu hv (zn_b mu) (zn_b mv) (by rw [d_gap mu]; unfold zy; clear hu hv zu zv; omega) (by rw [d_gap mv]; unfold zy; clear hu hv zu zv; omega), Int64.or_comm]
  exact kp_pk (Nat.mul_ne_zero (Nat.ne_of_gt (Nat.lt_of_lt_of_le (by decide) (zn_b mu).1)) (Nat.ne_of_gt (Nat.lt_of_lt_of_le (by decide) (zn_b mv).1)))
theorem kp_quotient (x y : Int64) : KP (f_Re_quotient x y) := by
  obtain ⟨u, hu, rfl⟩ := d_of x
  obtain ⟨v, hv, rfl⟩ := d_of y
  unfold f_Re_quotient
  rw [sx_and hu hv, show f_Re_size (lN u) = lN (zs u) from d_size hu, show f_Re_size (lN v) = lN (zs v) from d_size hv, zc_0, zc_0]
  generalize (sn u != sn v) = b
  have h24 : KP (t_Re_quotient_24 (lN u) (lN v) (SG b)) := cdP _ (fun _ => kp_nan) (fun _ => cdP _ (fun _ => kp_i) (fun _ => kp_nan))
  refine cdP _ (fun _ => kp_nan) (fun _ => cdP _ (fun _ => ?_) (fun _ => kp_nan))
  refine cdP _ (fun _ => h24) (fun _ => cdP _ (fun zv => ?_) (fun _ => h24))
  refine cdP _ (fun _ => kp_0) (fun _ => cdP _ (fun zu => ?_) (fun _ => kp_0))
  refine cdP _ (fun _ => ?_) (fun _ => kp_nan)
  have mu : zm u ≠ 0 := z_m1 (fun z => by rw [dt z] at zu; exact absurd zu (by decide))
  have mv : zm v ≠ 0 := z_m1 (fun z => by rw [dt z] at zv; exact absurd zv (by decide))
  rw [d_manR hu, d_manR hv, d_zn mu, d_zn mv, quo_R hu hv mu mv, Int64.or_comm]
  refine kp_pk (fun z => ?_)
  have z1 := (Nat.mul_eq_zero.mp (Nat.add_eq_zero_iff.mp z).1).resolve_left (by decide)
  have c1 := (quo_b (zn_b mu).1 (Nat.lt_of_lt_of_le (by decide) (zn_b mv).1) (zn_b mv).2).1
  rw [z1] at c1
  exact absurd c1 (by decide)
theorem kp_remainder (x y : Int64) (hx : KP x) : KP (f_Re_remainder x y) := by
  obtain ⟨u, hu, rfl⟩ := d_of x
  obtain ⟨v, hv, rfl⟩ := d_of y
  unfold f_Re_remainder
  rw [show f_Re_size (lN u) = lN (zs u) from d_size hu, show f_Re_size (lN v) = lN (zs v) from d_size hv, zc_0, lc_ge, yL_i (zs_lt u), yL_i (zs_lt v), dcg Int.ofNat_le]
  refine cdP _ (fun _ => kp_nan) (fun _ => cdP _ (fun _ => kp_nan) (fun _ => cdP _ (fun _ => kp_nan) (fun _ => cdP _ (fun zv => ?_) (fun _ => kp_nan))))
  refine cdP _ (fun _ => hx) (fun _ => cdP _ (fun hle => cdP _ (fun _ => ?_) (fun _ => kp_nan)) (fun _ => hx))
  have zv0 : zs v ≠ 0 := fun z => by rw [dt z] at zv; exact absurd zv (by decide)
  have hle' := of_decide_eq_true hle
  have mv : zm v ≠ 0 := z_m1 zv0
  have mu : zm u ≠ 0 := z_m1 (fun z => zv0 (Nat.le_zero.mp (z ▸ hle')))
  rw [d_manR hu, d_manR hv, d_zn mu, d_zn mv, rem_R hu hv mu mv (zn_ord mu mv hle')]
  unfold fin_r
  split
  · exact kp_0
  · next h => exact kp_pk h
/-- what the reference's packing leaves -/
theorem kp_packed {M : Nat} {x mo bl : Int32} (hM : M ≠ 0) (hM2 : M < 2 ^ 63) (hx : -20000 ≤ x.toInt ∧ x.toInt ≤ 20000) : KP (f_M_signed bl (lN M) x mo) := by
  rw [s52 hM hM2 hx]
  have : (if bl.toInt = 0 then (0 : Int64) else -9223372036854775808) = SG (decide (¬ bl.toInt = 0)) := by
    by_cases h : bl.toInt = 0
    · rw [if_pos h, df (fun z => z h)]
      rfl
    · rw [if_neg h, dt h]
      rfl
  rw [this]
  exact kp_pk hM
theorem sq_kp {m : Nat} {v3 : Int32} (h1 : 2 ^ 52 ≤ m) (h2 : m < 2 ^ 54) (hv : -2000 ≤ v3.toInt ∧ v3.toInt ≤ 2000) : KP (t_Re_root_48 v3 (lN m)) := by
  rw [sq_eq h1 h2 hv]
  unfold t_M_root_44
  have e2 := sq_50 (v4 := v3) h2 57 0 26 rfl rfl
  rw [show sqR m 0 = (0, 0) from rfl] at e2
  have l1 := sq_lo h1 h2 56
  have c1 := (sq_b m 57).1
  have hd : -1000 ≤ (v3 / (2 : Int32)).toInt ∧ (v3 / (2 : Int32)).toInt ≤ 1000 := by
    rw [Int32.toInt_div, show ((2 : Int32).toInt) = 2 from rfl]
    clear l1 c1 h1 h2 e2
    have t1 : -1000 ≤ v3.toInt.tdiv 2 ∧ v3.toInt.tdiv 2 ≤ 1000 := by
      rcases Int.le_total 0 v3.toInt with z | z
      · rw [Int.tdiv_eq_ediv_of_nonneg z]
        omega
      · rw [show v3.toInt.tdiv 2 = -((-v3.toInt).tdiv 2) by rw [Int.neg_tdiv, Int.neg_neg], Int.tdiv_eq_ediv_of_nonneg (by omega)]
        omega
    rw [Int.bmod_eq_of_le (by omega) (by omega)]
    exact t1
  have f2 := i_subn (rfl : (v3 / (2 : Int32)).toInt = _) (show ((30 : Int32).toInt) = 30 from rfl) (by clear l1 c1 h1 h2 e2; omega) (by clear l1 c1 h1 h2 e2; omega) (by decide) (by decide)
  refine Eq.mpr (congrArg KP e2) ?_
  have g : ∀ w, KP (t_M_root_107 w ((v3 / (2 : Int32)) - (30 : Int32)) (lN (sqR m 57).1) (0 : Int32)) := fun w => kp_packed (Nat.ne_of_gt (Nat.lt_of_lt_of_le (by decide) l1)) (Nat.lt_trans c1 (by decide)) (by rw [f2]; clear l1 c1 h1 h2 e2; omega)
  exact cdP _ (fun _ => g _) (fun _ => g _)
theorem kp_root (x : Int64) (hx : KP x) : KP (f_Re_root x) := by
  rw [root_root hx]
  obtain ⟨u, hu, rfl⟩ := d_of x
  unfold f_M_root
  rw [d_zero hu, cn1_eq_b2i]
  refine cdP _ (fun _ => hx) (fun _ => cdP _ (fun zu => cdP _ (fun _ => cdP _ (fun _ => ?_) (fun _ => hx)) (fun _ => kp_nan)) (fun _ => hx))
  have mu : zm u ≠ 0 := z_m1 (fun z => by rw [dt z] at zu; exact absurd zu (by decide))
  obtain ⟨a1, a2⟩ := zn_b mu
  have hy := zy_b u
  have hd := d_zy hu mu
  have g : ∀ m (e : Int32), 2 ^ 52 ≤ m → m < 2 ^ 54 → (-2000 ≤ e.toInt ∧ e.toInt ≤ 2000) → KP (t_M_root_44 (lN m) e) := fun m e h1 h2 he => by
    rw [← sq_eq h1 h2 he]
    exact sq_kp h1 h2 he
  rw [d_manM hu, root_M hu mu, yL_shl (y := 1) (k := 1) rfl (by decide)]
  refine cdP _ (fun _ => g _ _ a1 (Nat.lt_trans a2 (by decide)) (by rw [hd]; clear hu a1 a2; omega)) (fun _ => g _ _ (Nat.le_trans a1 (Nat.le_mul_of_pos_right _ (by decide))) (Nat.lt_of_lt_of_le ((Nat.mul_lt_mul_right (by decide)).mpr a2) (by decide)) (by rw [i_add (-1) (by rw [hd]; clear hu a1 a2; omega) (by rw [hd]; clear hu a1 a2; omega) (by decide) (by decide), hd]; clear hu a1 a2; omega))
