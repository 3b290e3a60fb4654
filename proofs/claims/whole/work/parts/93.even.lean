/-! REALS: whole numbers, the middle range -/
theorem mid_m {u k : Nat} (h1 : 1023 ≤ ze u) (h2 : ze u < 1075) (hk : k = 1075 - ze u) : zm u % 2 ^ k = u % 2 ^ k ∧ zm u / 2 ^ k % 2 = u / 2 ^ k % 2 ∧ 2 ^ 52 ≤ zm u / 2 ^ k * 2 ^ k ∧ (zm u / 2 ^ k + 1) * 2 ^ k ≤ 2 ^ 53 := by
  have hz : ze u ≠ 0 := by omega
  have e : zm u = u % 2 ^ 52 + 2 ^ 52 := by rw [zm_u]; unfold zm; rw [if_neg hz]
  have ea := Nat.div_add_mod' u (2 ^ 52)
  have eb := ze_u u
  have fl : u % 2 ^ 52 < 2 ^ 52 := Nat.mod_lt _ (by decide)
  have ml := zm_lt u
  obtain ⟨j, hj⟩ : ∃ j, 52 = k + j := ⟨52 - k, by clear fl ml; omega⟩
  have h52 : (2 : Nat) ^ 52 = 2 ^ j * 2 ^ k := by rw [← pw_add, Nat.add_comm, ← hj]
  have h53 : (2 : Nat) ^ 53 = 2 ^ j * 2 * 2 ^ k := by rw [Nat.mul_right_comm, ← h52]
  obtain ⟨f, hf⟩ : ∃ f, f = u % 2 ^ 52 := ⟨_, rfl⟩
  obtain ⟨a, ha⟩ : ∃ a, a = u / 2 ^ 52 := ⟨_, rfl⟩
  rw [← hf] at e ea fl
  rw [← ha] at ea eb
  have hK := pw_pos k
  have u1 : u / 2 ^ k = a * 2 ^ j + f / 2 ^ k := by rw [← ea, h52, ← Nat.mul_assoc, Nat.add_comm, Nat.add_mul_div_right _ _ hK, Nat.add_comm]
  have u2 : u % 2 ^ k = f % 2 ^ k := by rw [← ea, h52, ← Nat.mul_assoc, Nat.add_comm, Nat.add_mul_mod_self_right]
  have m1 : zm u / 2 ^ k = 2 ^ j + f / 2 ^ k := by rw [e, h52, Nat.add_mul_div_right _ _ hK, Nat.add_comm]
  have m2 : zm u % 2 ^ k = f % 2 ^ k := by rw [e, h52, Nat.add_mul_mod_self_right]
  refine ⟨m2.trans u2.symm, ?_, ?_, ?_⟩
  · rw [u1, m1]
    by_cases j0 : j = 0
    · have k52 : k = 52 := by clear fl ml; omega
      have a1 : a % 2 = 1 := by
        have h9 : a % 2 ^ 11 % 2 = a % 2 := Nat.mod_mod_of_dvd _ (by decide)
        rw [← h9, eb, show ze u = 1023 by clear fl ml; omega]
      rw [j0, k52, Nat.div_eq_of_lt fl, Nat.pow_zero, Nat.mul_one, Nat.add_zero, Nat.add_zero, a1]
    · obtain ⟨i, hi⟩ : ∃ i, j = i + 1 := ⟨j - 1, by clear fl ml; omega⟩
      rw [hi, Nat.pow_succ, ← Nat.mul_assoc, Nat.add_comm (2 ^ i * 2), Nat.add_comm (a * 2 ^ i * 2), Nat.add_mul_mod_self_right, Nat.add_mul_mod_self_right]
  · rw [m1, Nat.add_mul, ← h52]
    exact Nat.le_add_right _ _
  · rw [h53]
    refine Nat.mul_le_mul_right _ (Nat.succ_le_of_lt ?_)
    rw [Nat.div_lt_iff_lt_mul hK, ← h53]
    exact ml
theorem sg_add {K : Nat} {b : Bool} (hK : K < 2 ^ 63) : lN K ||| SG b = lN (K + (if b = true then 2 ^ 63 else 0)) := by
  cases b
  · rw [if_neg (by decide), Nat.add_zero]
    exact Int64.or_zero
  · rw [if_pos rfl, show SG true = lN (1 * 2 ^ 63) from by decide, show K + 2 ^ 63 = K + 1 * 2 ^ 63 by rw [Nat.one_mul]]
    exact g_or' (k := 63) rfl hK (Nat.lt_of_lt_of_le (Nat.add_lt_add_right hK _) (by decide))
theorem ev_mid {u k : Nat} {h : Int32} (hu : u < 2 ^ 64) (h1 : 1023 ≤ ze u) (h2 : ze u < 1075) (hk : k = 1075 - ze u) (hh : h = 1 ∨ h = 2 ∨ h = 3) :
    f_M_even (lN u) h = lN (u - u % 2 ^ k + (if u % 2 ^ k ≠ 0 ∧ upB h (sn u) (u / 2 ^ k) (u % 2 ^ k) k = true then 2 ^ k else 0)) := by
  obtain ⟨n1, n2, n3, n4⟩ := mid_m h1 h2 hk
  have hk1 : 1 ≤ k := by clear hu n3 n4; omega
  have hk2 : k ≤ 52 := by clear hu n3 n4; omega
  have hzx : zx u = -(k : Int) := by unfold zx; rw [if_neg (by clear hu n3 n4; omega)]; clear hu n3 n4; omega
  have ml := zm_lt u
  have m64 : zm u < 2 ^ 64 := Nat.lt_trans ml (by decide)
  have hp := d_pow hu
  have zu : ¬ zs u = 0 := fun z => by
    unfold ze at h1
    rw [z, Nat.zero_div] at h1
    exact absurd h1 (by decide)
  have nn : ¬ 2047 * 2 ^ 52 < zs u := by
    intro z
    have : 2047 ≤ ze u := (Nat.le_div_iff_mul_le (by decide)).mpr (Nat.le_of_lt z)
    clear hu z ml n3 n4 m64
    omega
  have ni : ¬ zs u = 2047 * 2 ^ 52 := by
    intro z
    have : ze u = 2047 := by unfold ze; rw [z, Nat.mul_div_cancel _ (by decide)]
    clear hu z ml nn n3 n4 m64
    omega
  have hnp : (-(f_M_power (lN u))).toInt = (k : Int) := by
    rw [i_negy hp (by clear hu ml nn ni m64 n3 n4; omega) (by clear hu ml nn ni m64 n3 n4; omega), hzx, Int.neg_neg]
  have hkp : (2 : Nat) ^ k ≤ 2 ^ 52 := Nat.pow_le_pow_right (by decide) hk2
  have hr52 : u % 2 ^ k < 2 ^ 52 := Nat.lt_of_lt_of_le (Nat.mod_lt _ (pw_pos k)) hkp
  unfold f_M_even
  rw [d_no hu, d_inf hu, d_zero hu, cn1_ne_b2i, cn1_ne_b2i, cn1_ne_b2i, df nn, df ni, df zu, cond_false, cond_false, cond_false, c1_lt, hp, cd_t (by clear hu ml nn ni m64 n3 n4 hkp hr52; omega), c2_le, hnp, show ((53 : Int32).toInt) = 53 from rfl, d_manM hu, cd_t (by clear hu ml nn ni m64 n3 n4 hkp hr52; omega)]
  unfold t_M_even_30
  rw [c2_le, hnp, show ((53 : Int32).toInt) = 53 from rfl, cd_t (by clear hu ml nn ni m64 n3 n4 hkp hr52; omega), yL_shr hnp (by clear hu ml nn ni m64 n3 n4 hkp hr52; omega) m64, yL_shl hnp (by clear hu ml nn ni m64 n3 n4 hkp hr52; omega), yL_sub (Nat.div_mul_le_self _ _)]
  have hsub : zm u - zm u / 2 ^ k * 2 ^ k = u % 2 ^ k := by
    rw [← n1]
    have := Nat.div_add_mod' (zm u) (2 ^ k)
    clear hu ml nn ni m64 n3 n4 hkp hr52
    omega
  rw [hsub]
  unfold t_M_even_41
  have hr64 : u % 2 ^ k < 2 ^ 64 := Nat.lt_trans hr52 (by decide)
  rw [lc_ne, show (0 : Int64) = lN 0 from rfl, dcg (not_congr (yL_inj hr64 (by decide))), show lN 0 = (0 : Int64) from rfl]
  by_cases hz : u % 2 ^ k = 0
  · rw [cd_f (fun z => z hz), if_neg (fun z => z.1 hz), Nat.add_zero, hz, Nat.sub_zero]
  rw [cd_t hz]
  have hq1 : 1 ≤ zm u / 2 ^ k := by
    refine Nat.one_le_iff_ne_zero.mpr fun z => ?_
    rw [z, Nat.zero_mul] at n3
    exact absurd n3 (by decide)
  have hq53 : zm u / 2 ^ k < 2 ^ 53 := Nat.lt_of_le_of_lt (Nat.div_le_self _ _) ml
  have fin : ∀ w : Int32, ((¬ w.toInt = 0) ↔ upB h (sn u) (u / 2 ^ k) (u % 2 ^ k) k = true) → t_M_even_100 (lN u) (lN (zm u / 2 ^ k)) w = lN (u - u % 2 ^ k + (if u % 2 ^ k ≠ 0 ∧ upB h (sn u) (u / 2 ^ k) (u % 2 ^ k) k = true then 2 ^ k else 0)) := fun w hw => by
    have g : ∀ q, 1 ≤ q → q ≤ 2 ^ 53 → 2 ^ 52 ≤ q * 2 ^ k → q * 2 ^ k ≤ 2 ^ 53 → t_M_even_106 (lN u) (lN q) = lN ((ze u - 1) * 2 ^ 52 + q * 2 ^ k) ||| SG (sn u) := fun q hq1 hq2 hq3 hq4 => by
      unfold t_M_even_106 t_M_even_118
      have q0 : q ≠ 0 := Nat.ne_of_gt hq1
      rw [sgn_and hu, lc_ne, show (0 : Int64) = lN 0 from rfl, dcg (not_congr (yL_inj (Nat.lt_of_le_of_lt hq2 (by decide)) (by decide))), cd_t q0, packed_pk (p := 52) (B := 1023) rfl rfl (Or.inl ⟨rfl, rfl⟩) q0 (Nat.lt_of_le_of_lt hq2 (by decide)) (by decide)]
      have hs := pk_scale (p := 52) (B := 1023) q0 k ((ze u : Int) - 1075)
      rw [pk_lin (by clear hu ml nn ni m64 n3 n4 hkp hr52 hq1 hq2 hq3 hq4 hq53 hr64; omega) (by clear hu ml nn ni m64 n3 n4 hkp hr52 hq1 hq2 hq3 hq4 hq53 hr64; omega) hq3 hq4, show (ze u : Int) - 1075 + (k : Int) = 0 by clear hu ml nn ni m64 n3 n4 hkp hr52 hq1 hq2 hq3 hq4 hq53 hr64; omega] at hs
      rw [hs]
      rfl
    have ed := z_dec hu
    have ezs : zs u = (ze u - 1) * 2 ^ 52 + zm u := by
      have e0 := zs_eq u
      have e1 : zm u = zs u % 2 ^ 52 + 2 ^ 52 := by unfold zm; rw [if_neg (by clear hu ml nn ni m64 n3 n4 hkp hr52 hq53 hr64; omega)]
      obtain ⟨j, hj⟩ : ∃ j, ze u = j + 1 := ⟨ze u - 1, by clear hu ml nn ni m64 n3 n4 hkp hr52 hq53 hr64; omega⟩
      rw [e1, hj, Nat.add_sub_cancel]
      rw [hj, Nat.add_mul, Nat.one_mul] at e0
      rw [Nat.add_comm (zs u % 2 ^ 52), ← Nat.add_assoc]
      exact e0
    have edm := Nat.div_add_mod' (zm u) (2 ^ k)
    rw [n1] at edm
    have hle : u % 2 ^ k ≤ zs u := by rw [ezs, ← edm]; exact Nat.le_trans (Nat.le_add_left _ _) (Nat.le_add_left _ _)
    have fin2 : ∀ X q, q * 2 ^ k = zm u / 2 ^ k * 2 ^ k + X → q * 2 ^ k ≤ 2 ^ 53 → lN ((ze u - 1) * 2 ^ 52 + q * 2 ^ k) ||| SG (sn u) = lN (u - u % 2 ^ k + X) := fun X q hq hq4 => by
      have hKlt : (ze u - 1) * 2 ^ 52 + q * 2 ^ k < 2 ^ 63 := Nat.lt_of_le_of_lt (Nat.add_le_add (Nat.mul_le_mul_right _ (show ze u - 1 ≤ 1074 by clear hu ml nn ni m64 n3 n4 hkp hr52 hq53 hr64 hq4; omega)) hq4) (by decide)
      rw [sg_add hKlt]
      congr 1
      rw [hq]
      obtain ⟨A, hA⟩ : ∃ A, A = (ze u - 1) * 2 ^ 52 := ⟨_, rfl⟩
      obtain ⟨B, hB⟩ : ∃ B, B = zm u / 2 ^ k * 2 ^ k := ⟨_, rfl⟩
      obtain ⟨C, hC⟩ : ∃ C, C = (if sn u = true then 2 ^ 63 else 0) := ⟨_, rfl⟩
      rw [← hA] at ezs ⊢
      rw [← hB] at edm ⊢
      rw [← hC] at ed ⊢
      obtain ⟨r, hr⟩ : ∃ r, r = u % 2 ^ k := ⟨_, rfl⟩
      rw [← hr] at edm ⊢
      clear hu ml nn ni m64 n3 n4 hkp hr52 hq53 hr64 hq4 hKlt hA hB hC hr hle hw
      omega
    unfold t_M_even_100
    rw [c1_eq]
    by_cases hw0 : w.toInt = 0
    · rw [cd_t hw0, if_neg (fun z => (hw.mpr z.2) hw0), g _ hq1 (Nat.le_of_lt hq53) n3 (Nat.le_trans (Nat.mul_le_mul_right _ (Nat.le_succ _)) n4)]
      exact fin2 0 _ (Nat.add_zero _).symm (Nat.le_trans (Nat.mul_le_mul_right _ (Nat.le_succ _)) n4)
    · rw [cd_f hw0, if_pos ⟨hz, hw.mp hw0⟩, show (1 : Int64) = lN 1 from rfl, yL_add, g _ (Nat.le_add_left _ _) (Nat.succ_le_of_lt hq53) (Nat.le_trans n3 (Nat.mul_le_mul_right _ (Nat.le_succ _))) n4]
      exact fin2 (2 ^ k) _ (by rw [Nat.add_mul, Nat.one_mul]) n4
  have hb : ∀ b : Bool, (¬ (cond b (1 : Int32) 0).toInt = 0) ↔ b = true := fun b => by cases b <;> decide
  by_cases h3 : h = 3
  · rw [show cn2 .ne h (3 : Int32) = false from by rw [h3]; rfl, cond_false, c2_le, hnp, show ((53 : Int32).toInt) = 53 from rfl, cd_t (by clear hu ml nn ni m64 n3 n4 hkp hr52 hq53 hr64; omega)]
    have hup : upB h (sn u) (u / 2 ^ k) (u % 2 ^ k) k = decide (2 ^ k < 2 * (u % 2 ^ k) ∨ (2 * (u % 2 ^ k) = 2 ^ k ∧ u / 2 ^ k % 2 = 1)) := by unfold upB; rw [if_pos h3]
    have hpe := pw_half hk1
    have hm1 : (2 : Nat) ^ (k - 1) < 2 ^ 63 := Nat.pow_lt_pow_right (by decide) (by clear hu ml nn ni m64 n3 n4 hkp hr52 hq53 hr64 hpe; omega)
    have hpp : (2 : Nat) ^ k = 2 * 2 ^ (k - 1) := by
      obtain ⟨i, hi⟩ : ∃ i, k = i + 1 := ⟨k - 1, (Nat.sub_add_cancel hk1).symm⟩
      rw [hi, Nat.pow_succ, Nat.add_sub_cancel, Nat.mul_comm]
    have hhalf : (1 : Int64) <<< (Int32.toInt64 (-(f_M_power (lN u)) - (1 : Int32)) &&& 63) = lN (2 ^ (k - 1)) := by
      rw [show (1 : Int64) = lN 1 from rfl, yL_shl (k := k - 1) (by rw [i_subn hnp (show ((1 : Int32).toInt) = 1 from rfl) (by clear hu ml nn ni m64 n3 n4 hkp hr52 hq53 hr64 hpe hm1 hpp; omega) (by clear hu ml nn ni m64 n3 n4 hkp hr52 hq53 hr64 hpe hm1 hpp; omega) (by decide) (by decide)]; clear hu ml nn ni m64 n3 n4 hkp hr52 hq53 hr64 hpe hm1 hpp; omega) (by clear hu ml nn ni m64 n3 n4 hkp hr52 hq53 hr64 hpe hm1 hpp; omega), Nat.one_mul]
    have hr63 : u % 2 ^ k < 2 ^ 63 := Nat.lt_trans hr52 (by decide)
    unfold t_M_even_61 t_M_even_76 t_M_even_78 t_M_even_79
    rw [hhalf, lc_gt, lc_ne, lc_ne, yL_i hr63, yL_i hm1, dcg Int.ofNat_lt, dcg (not_congr (yL_inj hr64 (lt64 hm1))), wb_a1 (Nat.lt_trans hq53 (by decide)), n2, show (1 : Int64) = lN 1 from rfl, dcg (not_congr (yL_inj (Nat.lt_trans (Nat.mod_lt _ (by decide)) (by decide)) (by decide)))]
    have hq := Nat.mod_lt (u / 2 ^ k) (show 0 < 2 by decide)
    by_cases g1 : 2 ^ (k - 1) < u % 2 ^ k
    · rw [cd_t g1]
      refine fin 1 ⟨fun _ => ?_, fun _ => by decide⟩
      rw [hup]
      exact dt (Or.inl (by
        have y := Nat.mul_lt_mul_of_pos_left g1 (show 0 < 2 by decide)
        rw [← hpp] at y
        exact y))
    · rw [cd_f g1]
      by_cases g2 : u % 2 ^ k = 2 ^ (k - 1)
      · rw [cd_f (fun z => z g2)]
        by_cases g3 : u / 2 ^ k % 2 = 1
        · rw [cd_f (fun z => z g3)]
          refine fin 1 ⟨fun _ => ?_, fun _ => by decide⟩
          rw [hup]
          exact dt (Or.inr ⟨by rw [g2]; exact hpp.symm, g3⟩)
        · rw [cd_t g3]
          refine fin 0 ⟨fun z => absurd rfl z, fun z => ?_⟩
          rw [hup] at z
          rcases of_decide_eq_true z with y | y
          · rw [g2, ← hpp] at y
            exact absurd y (Nat.lt_irrefl _)
          · exact absurd y.2 g3
      · rw [cd_t g2]
        refine fin 0 ⟨fun z => absurd rfl z, fun z => ?_⟩
        rw [hup] at z
        rcases of_decide_eq_true z with y | y
        · have y2 := lt_of_eq_of_lt hpp.symm y
          exact absurd (Nat.lt_of_mul_lt_mul_left y2) g1
        · exact absurd (Nat.eq_of_mul_eq_mul_left (by decide) (y.1.trans hpp)) g2
  · rw [show cn2 .ne h (3 : Int32) = true from by unfold cn2; simp [h3], cond_true]
    unfold t_M_even_99
    rw [lc_lt, show ((0 : Int64).toInt) = 0 from rfl, dcg (d_neg hu), sn_ge hu, show decide (2 ^ 63 ≤ u) = sn u from rfl]
    have hup : upB h (sn u) (u / 2 ^ k) (u % 2 ^ k) k = if h = 1 then sn u else !(sn u) := by unfold upB; rw [if_neg h3]
    by_cases hh1 : h = 1
    · rw [if_pos hh1] at hup
      rw [show cn2 .ne h (1 : Int32) = false from by rw [hh1]; rfl, cond_false]
      cases hs : sn u
      · rw [hs] at hup
        rw [Bool.not_false, cond_true]
        have := fin 0 ⟨fun z => absurd rfl z, fun z => by rw [hs, hup] at z; exact absurd z (by decide)⟩
        rw [hs] at this
        exact this
      · rw [hs] at hup
        rw [Bool.not_true, cond_false]
        have := fin 1 ⟨fun z => by rw [hs, hup], fun z => by decide⟩
        rw [hs] at this
        exact this
    · rw [if_neg hh1] at hup
      rw [show cn2 .ne h (1 : Int32) = true from by unfold cn2; simp [hh1], cond_true]
      cases hs : sn u
      · rw [hs] at hup
        rw [cond_false]
        have := fin 1 ⟨fun z => by rw [hs, hup]; rfl, fun z => by decide⟩
        rw [hs] at this
        exact this
      · rw [hs] at hup
        rw [cond_true]
        have := fin 0 ⟨fun z => absurd rfl z, fun z => by rw [hs, hup] at z; exact absurd z (by decide)⟩
        rw [hs] at this
        exact this
