/-! REALS: the root, digit by digit -/
def sqS (p : Nat × Nat) (c : Nat) : Nat × Nat := if 4 * p.2 + c < 4 * p.1 + 1 then (2 * p.1, 4 * p.2 + c) else (2 * p.1 + 1, 4 * p.2 + c - (4 * p.1 + 1))
def sqD (m t : Nat) : Nat := if t ≤ 26 then m / 2 ^ (2 * (26 - t)) % 4 else 0
def sqR (m : Nat) : Nat → Nat × Nat
  | 0 => (0, 0)
  | t + 1 => sqS (sqR m t) (sqD m t)
theorem sqD_lt (m t : Nat) : sqD m t < 4 := by
  unfold sqD
  split
  · exact Nat.mod_lt _ (by decide)
  · decide
theorem sq_b (m : Nat) : ∀ t, (sqR m t).1 < 2 ^ t ∧ (sqR m t).2 ≤ 2 * (sqR m t).1
  | 0 => by unfold sqR; decide
  | t + 1 => by
    obtain ⟨a, b⟩ := sq_b m t
    have c := sqD_lt m t
    rw [sqR]
    generalize sqR m t = p at *
    generalize sqD m t = d at *
    rw [Nat.pow_succ]
    obtain ⟨K, hK⟩ : ∃ K, K = 2 ^ t := ⟨_, rfl⟩
    rw [← hK] at a ⊢
    clear hK
    unfold sqS
    split
    · dsimp only
      omega
    · dsimp only
      omega
theorem sq_lo {m : Nat} (h1 : 2 ^ 52 ≤ m) (h2 : m < 2 ^ 54) : ∀ t, 2 ^ t ≤ (sqR m (t + 1)).1
  | 0 => by
    have hd : 1 ≤ sqD m 0 := by
      unfold sqD
      rw [if_pos (by decide), show 2 * (26 - 0) = 52 from rfl]
      have a : 1 ≤ m / 2 ^ 52 := (Nat.le_div_iff_mul_le (by decide)).mpr (by rw [Nat.one_mul]; exact h1)
      have b : m / 2 ^ 52 < 4 := (Nat.div_lt_iff_lt_mul (by decide)).mpr (Nat.lt_of_lt_of_le h2 (by decide))
      rw [Nat.mod_eq_of_lt b]
      exact a
    rw [sqR, show sqR m 0 = (0, 0) from rfl]
    unfold sqS
    dsimp only
    clear h1 h2
    rw [if_neg (by omega)]
    exact Nat.le_refl 1
  | t + 1 => by
    have a := sq_lo h1 h2 t
    rw [sqR]
    rw [Nat.pow_succ]
    generalize sqR m (t + 1) = p at *
    generalize sqD m (t + 1) = d at *
    clear h1 h2
    unfold sqS
    split
    · dsimp only
      omega
    · dsimp only
      omega
/-- one digit on the machine -/
theorem sq_st {α : Type} {R r c k : Nat} (hR : R < 2 ^ k) (hk : k ≤ 57) (hr : r ≤ 2 * R) (hc : c < 4) (A B : Int64 → Int64 → α) :
    cond (cn1 .lt (lg_cmp ((lN r <<< (Int32.toInt64 (2 : Int32) &&& 63)) ||| lN c) ((lN R <<< (Int32.toInt64 (2 : Int32) &&& 63)) ||| (1 : Int64)))) (A (lN R <<< (Int32.toInt64 (1 : Int32) &&& 63)) ((lN r <<< (Int32.toInt64 (2 : Int32) &&& 63)) ||| lN c)) (B (lN R <<< (Int32.toInt64 (1 : Int32) &&& 63)) (((lN r <<< (Int32.toInt64 (2 : Int32) &&& 63)) ||| lN c) - ((lN R <<< (Int32.toInt64 (2 : Int32) &&& 63)) ||| (1 : Int64)))) =
    if 4 * r + c < 4 * R + 1 then A (lN (2 * R)) (lN (4 * r + c)) else B (lN (2 * R)) (lN (4 * r + c - (4 * R + 1))) := by
  have hR57 : R < 2 ^ 57 := Nat.lt_of_lt_of_le hR (Nat.pow_le_pow_right (by decide) hk)
  have e57 : (2 : Nat) ^ 57 = 144115188075855872 := by decide
  have e63 : (2 : Nat) ^ 63 = 9223372036854775808 := by decide
  have e64 : (2 : Nat) ^ 64 = 18446744073709551616 := by decide
  rw [e57] at hR57
  clear hR hk
  have o1 : (lN r <<< (Int32.toInt64 (2 : Int32) &&& 63)) ||| lN c = lN (4 * r + c) := by
    rw [yL_shl (y := 2) (k := 2) rfl (by decide), g_or (k := 2) rfl hc (by rw [e64]; omega), Nat.mul_comm]
  have o2 : (lN R <<< (Int32.toInt64 (2 : Int32) &&& 63)) ||| (1 : Int64) = lN (4 * R + 1) := by
    rw [yL_shl (y := 2) (k := 2) rfl (by decide), show (1 : Int64) = lN 1 from rfl, g_or (k := 2) rfl (by decide) (by rw [e64]; omega), Nat.mul_comm]
  rw [o1, o2, yL_shl (y := 1) (k := 1) rfl (by decide), Nat.pow_one, Nat.mul_comm R 2, lc_lt, yL_i (by rw [e63]; omega), yL_i (by rw [e63]; omega), dcg Int.ofNat_lt]
  by_cases h : 4 * r + c < 4 * R + 1
  · rw [cd_t h, if_pos h]
  · rw [cd_f h, if_neg h, yL_sub (Nat.le_of_not_lt h)]
theorem sq_dg {m t : Nat} {w : Int32} (hm : m < 2 ^ 54) (ht : t ≤ 26) (hw : w.toInt = 26 - (t : Int)) : ((Int64.toUInt64 (lN m) >>> (Int64.toUInt64 (Int32.toInt64 ((2 : Int32) * w)) &&& Int64.toUInt64 63)).toInt64) &&& (3 : Int64) = lN (sqD m t) := by
  have h64 : m < 2 ^ 64 := Nat.lt_trans hm (by decide)
  have e : ((2 : Int32) * w).toInt = ((2 * (26 - t) : Nat) : Int) := by
    rw [Int32.toInt_mul, hw, show ((2 : Int32).toInt) = 2 from rfl]
    clear hm h64
    rw [Int.bmod_eq_of_le (by omega) (by omega)]
    omega
  rw [yL_shr e (by clear hm h64; omega) h64, show (3 : Int64) = lN (2 ^ 2 - 1) from rfl, yL_and (by decide) (Nat.lt_of_le_of_lt (Nat.div_le_self _ _) h64)]
  unfold sqD
  rw [if_pos ht]
/-- the class -/
theorem sq_54 {m : Nat} {v3 : Int32} (hm : m < 2 ^ 54) : ∀ (k t : Nat) (w : Int32), k + t = 55 → w.toInt = 26 - (t : Int) →
    t_Re_root_54 (k + 1) v3 (lN m) (lN (sqR m t).1) (lN (sqR m t).2) w = cond (cn1 .ne (lg_cmp (lN (sqR m 55).2) (0 : Int64))) (t_Re_root_107 v3 (1 : Int32) (lN (sqR m 55).1 <<< (Int32.toInt64 (1 : Int32) &&& 63))) (t_Re_root_107 v3 (0 : Int32) (lN (sqR m 55).1 <<< (Int32.toInt64 (1 : Int32) &&& 63))) := by
  intro k
  induction k with
  | zero =>
    intro t w ht hw
    have t55 : t = 55 := by omega
    subst t55
    rw [t_Re_root_54, c2_lt, hw, show ((-28 : Int32).toInt) = -28 from by decide, cd_t (by decide)]
  | succ k ih =>
    intro t w ht hw
    obtain ⟨b1, b2⟩ := sq_b m t
    have hc := sqD_lt m t
    have w1 : (w + Int32.ofInt (-1)).toInt = 26 - ((t + 1 : Nat) : Int) := by rw [i_add (-1) (by rw [hw]; clear hm b1; omega) (by rw [hw]; clear hm b1; omega) (by decide) (by decide), hw]; clear hm b1; omega
    have hi := ih (t + 1) _ (by clear hm b1; omega) w1
    rw [sqR] at hi
    rw [t_Re_root_54, c2_lt, hw, show ((-28 : Int32).toInt) = -28 from by decide, cd_f (by clear hm b1; omega), c1_lt, hw]
    have fin : ∀ c, c = sqD m t → (cond (cn1 .lt (lg_cmp ((lN (sqR m t).2 <<< (Int32.toInt64 (2 : Int32) &&& 63)) ||| lN c) ((lN (sqR m t).1 <<< (Int32.toInt64 (2 : Int32) &&& 63)) ||| (1 : Int64)))) (t_Re_root_54 (k + 1) v3 (lN m) (lN (sqR m t).1 <<< (Int32.toInt64 (1 : Int32) &&& 63)) ((lN (sqR m t).2 <<< (Int32.toInt64 (2 : Int32) &&& 63)) ||| lN c) (w + Int32.ofInt (-1))) (t_Re_root_54 (k + 1) v3 (lN m) ((lN (sqR m t).1 <<< (Int32.toInt64 (1 : Int32) &&& 63)) ||| (1 : Int64)) (((lN (sqR m t).2 <<< (Int32.toInt64 (2 : Int32) &&& 63)) ||| lN c) - ((lN (sqR m t).1 <<< (Int32.toInt64 (2 : Int32) &&& 63)) ||| (1 : Int64))) (w + Int32.ofInt (-1)))) = t_Re_root_54 (k + 1) v3 (lN m) (lN (sqS (sqR m t) (sqD m t)).1) (lN (sqS (sqR m t) (sqD m t)).2) (w + Int32.ofInt (-1)) := fun c hcd => by
      rw [hcd]
      refine Eq.trans (sq_st b1 (by clear hm b1; omega) b2 hc (fun x y => t_Re_root_54 (k + 1) v3 (lN m) x y (w + Int32.ofInt (-1))) (fun x y => t_Re_root_54 (k + 1) v3 (lN m) (x ||| (1 : Int64)) y (w + Int32.ofInt (-1)))) ?_
      unfold sqS
      split
      · rfl
      · have : lN (2 * (sqR m t).1) ||| (1 : Int64) = lN (2 * (sqR m t).1 + 1) := by
          rw [Nat.mul_comm 2, show (1 : Int64) = lN 1 from rfl]
          have hlt : (sqR m t).1 < 2 ^ 57 := Nat.lt_of_lt_of_le b1 (Nat.pow_le_pow_right (by decide) (by clear hm b1; omega))
          exact g_or (k := 1) (p := 2) rfl (by decide) (Nat.lt_of_lt_of_le (Nat.add_lt_add_right ((Nat.mul_lt_mul_right (by decide)).mpr hlt) 1) (by decide))
        dsimp only
        rw [this]
    rw [← hi]
    by_cases h26 : t ≤ 26
    · rw [cd_f (by clear hm b1; omega), sq_dg hm h26 hw]
      exact fin _ rfl
    · rw [cd_t (by clear hm b1; omega)]
      exact fin 0 (by unfold sqD; rw [if_neg h26])
/-- the reference -/
theorem sq_50 {m : Nat} {v4 : Int32} (hm : m < 2 ^ 54) : ∀ (k t : Nat) (w : Int32), k + t = 57 → w.toInt = 26 - (t : Int) →
    t_M_root_50 (k + 1) (lN m) v4 (lN (sqR m t).2) (lN (sqR m t).1) w = cond (cn1 .eq (lg_cmp (lN (sqR m 57).2) (0 : Int64))) (t_M_root_107 (0 : Int32) ((v4 / (2 : Int32)) - (30 : Int32)) (lN (sqR m 57).1) (0 : Int32)) (t_M_root_107 (1 : Int32) ((v4 / (2 : Int32)) - (30 : Int32)) (lN (sqR m 57).1) (0 : Int32)) := by
  intro k
  induction k with
  | zero =>
    intro t w ht hw
    have t57 : t = 57 := by omega
    subst t57
    rw [t_M_root_50, c2_lt, hw, show ((-30 : Int32).toInt) = -30 from by decide, cd_t (by decide)]
  | succ k ih =>
    intro t w ht hw
    obtain ⟨b1, b2⟩ := sq_b m t
    have hc := sqD_lt m t
    have w1 : (w + Int32.ofInt (-1)).toInt = 26 - ((t + 1 : Nat) : Int) := by rw [i_add (-1) (by rw [hw]; clear hm b1; omega) (by rw [hw]; clear hm b1; omega) (by decide) (by decide), hw]; clear hm b1; omega
    have hi := ih (t + 1) _ (by clear hm b1; omega) w1
    rw [sqR] at hi
    rw [t_M_root_50, c2_lt, hw, show ((-30 : Int32).toInt) = -30 from by decide, cd_f (by clear hm b1; omega), c1_ge, hw]
    have fin : ∀ c, c = sqD m t → (cond (cn1 .lt (lg_cmp ((lN (sqR m t).2 <<< (Int32.toInt64 (2 : Int32) &&& 63)) ||| lN c) ((lN (sqR m t).1 <<< (Int32.toInt64 (2 : Int32) &&& 63)) ||| (1 : Int64)))) (t_M_root_50 (k + 1) (lN m) v4 ((lN (sqR m t).2 <<< (Int32.toInt64 (2 : Int32) &&& 63)) ||| lN c) (lN (sqR m t).1 <<< (Int32.toInt64 (1 : Int32) &&& 63)) (w + Int32.ofInt (-1))) (t_M_root_50 (k + 1) (lN m) v4 (((lN (sqR m t).2 <<< (Int32.toInt64 (2 : Int32) &&& 63)) ||| lN c) - ((lN (sqR m t).1 <<< (Int32.toInt64 (2 : Int32) &&& 63)) ||| (1 : Int64))) ((lN (sqR m t).1 <<< (Int32.toInt64 (1 : Int32) &&& 63)) + (1 : Int64)) (w + Int32.ofInt (-1)))) = t_M_root_50 (k + 1) (lN m) v4 (lN (sqS (sqR m t) (sqD m t)).2) (lN (sqS (sqR m t) (sqD m t)).1) (w + Int32.ofInt (-1)) := fun c hcd => by
      rw [hcd]
      refine Eq.trans (sq_st b1 (by clear hm b1; omega) b2 hc (fun x y => t_M_root_50 (k + 1) (lN m) v4 y x (w + Int32.ofInt (-1))) (fun x y => t_M_root_50 (k + 1) (lN m) v4 y (x + (1 : Int64)) (w + Int32.ofInt (-1)))) ?_
      unfold sqS
      split
      · rfl
      · dsimp only
        rw [show (1 : Int64) = lN 1 from rfl, yL_add]
    rw [← hi]
    by_cases h26 : t ≤ 26
    · rw [cd_t (by clear hm b1; omega), sq_dg hm h26 hw]
      exact fin _ rfl
    · rw [cd_f (by clear hm b1; omega)]
      exact fin 0 (by unfold sqD; rw [if_neg h26])
/-- two digits more -/
theorem sq_2 (m : Nat) : (sqR m 57).1 / 4 = (sqR m 55).1 ∧ ((sqR m 55).2 = 0 ↔ (sqR m 57).1 % 4 = 0 ∧ (sqR m 57).2 = 0) := by
  obtain ⟨a, b⟩ := sq_b m 55
  rw [show sqR m 57 = sqS (sqS (sqR m 55) (sqD m 55)) (sqD m 56) from rfl, show sqD m 55 = 0 from rfl, show sqD m 56 = 0 from rfl]
  clear a
  generalize sqR m 55 = p at *
  obtain ⟨R, r⟩ := p
  dsimp only at b
  unfold sqS
  dsimp only
  by_cases h1 : 4 * r + 0 < 4 * R + 1
  · rw [if_pos h1]
    dsimp only
    by_cases h2 : 4 * (4 * r + 0) + 0 < 4 * (2 * R) + 1
    · rw [if_pos h2]
      dsimp only
      omega
    · rw [if_neg h2]
      dsimp only
      omega
  · rw [if_neg h1]
    dsimp only
    by_cases h2 : 4 * (4 * r + 0 - (4 * R + 1)) + 0 < 4 * (2 * R + 1) + 1
    · rw [if_pos h2]
      dsimp only
      omega
    · rw [if_neg h2]
      dsimp only
      omega
theorem sq_eq {m : Nat} {v3 : Int32} (h1 : 2 ^ 52 ≤ m) (h2 : m < 2 ^ 54) (hv : -2000 ≤ v3.toInt ∧ v3.toInt ≤ 2000) : t_Re_root_48 v3 (lN m) = t_M_root_44 (lN m) v3 := by
  unfold t_Re_root_48 t_M_root_44
  have e1 := sq_54 (v3 := v3) h2 55 0 26 rfl rfl
  have e2 := sq_50 (v4 := v3) h2 57 0 26 rfl rfl
  rw [show sqR m 0 = (0, 0) from rfl] at e1 e2
  refine Eq.trans e1 (Eq.trans ?_ e2.symm)
  clear e1 e2
  obtain ⟨a1, a2⟩ := sq_b m 55
  obtain ⟨c1, c2⟩ := sq_b m 57
  have l1 := sq_lo h1 h2 56
  obtain ⟨s1, s2⟩ := sq_2 m
  rw [show 56 + 1 = 57 from rfl] at l1
  generalize sqR m 57 = q at *
  generalize sqR m 55 = p at *
  obtain ⟨R, r⟩ := p
  obtain ⟨S, g⟩ := q
  dsimp only at *
  clear h1 h2
  have r64 : r < 2 ^ 64 := Nat.lt_of_le_of_lt a2 (Nat.lt_trans (Nat.mul_lt_mul_of_pos_left a1 (by decide)) (by decide))
  have g64 : g < 2 ^ 64 := Nat.lt_of_le_of_lt c2 (Nat.lt_trans (Nat.mul_lt_mul_of_pos_left c1 (by decide)) (by decide))
  obtain ⟨P, hP⟩ : ∃ P, P = 2 * S + (if g = 0 then 0 else 1) := ⟨_, rfl⟩
  have hP2 : P / 2 ^ 1 = S := by rw [hP, Nat.pow_one]; clear l1 a1 c1 r64 g64; split <;> omega
  have hP4 : P / 2 ^ 2 = S / 2 := by rw [hP, show 2 ^ 2 = 4 from rfl]; clear l1 a1 c1 r64 g64 hP2; split <;> omega
  have hPm : P % 2 ^ 1 ≠ 0 ↔ ¬ g = 0 := by rw [hP, Nat.pow_one]; clear l1 a1 c1 r64 g64 hP2 hP4; split <;> omega
  have hst : stk P 2 = 2 * R + (if r = 0 then 0 else 1) := by
    unfold stk
    rw [hP4, ← s1]
    have hm4 : P % 2 ^ 2 = 0 ↔ S % 2 = 0 ∧ g = 0 := by rw [hP, show 2 ^ 2 = 4 from rfl]; clear l1 a1 c1 r64 g64 hP2 hP4 hPm; split <;> omega
    clear l1 a1 c1 r64 g64 hP2 hP4 hPm hP
    by_cases hz : P % 2 ^ 2 = 0
    · rw [if_pos hz]
      have := hm4.mp hz
      by_cases hr : r = 0
      · rw [if_pos hr]
        have := s2.mp hr
        omega
      · rw [if_neg hr]
        have : ¬ (S % 4 = 0 ∧ g = 0) := fun z => hr (s2.mpr z)
        omega
    · rw [if_neg hz]
      have h3 : ¬ (S % 2 = 0 ∧ g = 0) := fun z => hz (hm4.mpr z)
      have hr : ¬ r = 0 := fun z => by have := s2.mp z; omega
      rw [if_neg hr]
      omega
  have hP0 : P ≠ 0 := fun z => by
    rw [z, Nat.zero_div] at hP2
    rw [← hP2] at l1
    exact absurd l1 (by decide)
  have lS : 2 ^ 55 ≤ S / 2 := (Nat.le_div_iff_mul_le (by decide)).mpr (Nat.le_trans (by decide) l1)
  have hd : -1000 ≤ (v3 / (2 : Int32)).toInt ∧ (v3 / (2 : Int32)).toInt ≤ 1000 := by
    rw [Int32.toInt_div, show ((2 : Int32).toInt) = 2 from rfl]
    clear l1 a1 c1 r64 g64 lS
    clear hP2 hP4 hPm hst hP s1 s2
    have t1 : -1000 ≤ v3.toInt.tdiv 2 ∧ v3.toInt.tdiv 2 ≤ 1000 := by
      rcases Int.le_total 0 v3.toInt with z | z
      · rw [Int.tdiv_eq_ediv_of_nonneg z]
        omega
      · rw [show v3.toInt.tdiv 2 = -((-v3.toInt).tdiv 2) by rw [Int.neg_tdiv, Int.neg_neg], Int.tdiv_eq_ediv_of_nonneg (by omega)]
        omega
    rw [Int.bmod_eq_of_le (by omega) (by omega)]
    exact t1
  obtain ⟨D, hD⟩ : ∃ D, (v3 / (2 : Int32)).toInt = D := ⟨_, rfl⟩
  have f1 : (v3 / (2 : Int32) - (29 : Int32)).toInt = D - 31 + ((2 : Nat) : Int) := by
    rw [i_subn hD (show ((29 : Int32).toInt) = 29 from rfl) (by clear l1 a1 c1 r64 g64 lS; omega) (by clear l1 a1 c1 r64 g64 lS; omega) (by decide) (by decide)]
    clear l1 a1 c1 r64 g64 lS
    omega
  have f2 : (v3 / (2 : Int32) - (30 : Int32)).toInt = D - 31 + ((1 : Nat) : Int) := by
    rw [i_subn hD (show ((30 : Int32).toInt) = 30 from rfl) (by clear l1 a1 c1 r64 g64 lS; omega) (by clear l1 a1 c1 r64 g64 lS; omega) (by decide) (by decide)]
    clear l1 a1 c1 r64 g64 lS
    omega
  have R56 : R * 2 ^ 1 < 2 ^ 56 := Nat.lt_of_lt_of_le ((Nat.mul_lt_mul_right (by decide)).mpr a1) (by decide)
  have hL : ∀ w : Int32, (w = 0 ∧ r = 0 ∨ w = 1 ∧ ¬ r = 0) → t_Re_root_107 v3 w (lN R <<< (Int32.toInt64 (1 : Int32) &&& 63)) = lN (pk 52 1023 P (D - 31) false) := fun w hw => by
    unfold t_Re_root_107
    have : lN R <<< (Int32.toInt64 (1 : Int32) &&& 63) ||| Int32.toInt64 w = lN (stk P 2) := by
      rw [hst, yL_shl (y := 1) (k := 1) rfl (by decide)]
      rcases hw with ⟨w0, z⟩ | ⟨w0, z⟩
      · rw [w0, if_pos z, Nat.add_zero, show Int32.toInt64 (0 : Int32) = lN 0 from by decide, wb_or (Nat.lt_trans R56 (by decide)) (by decide), Nat.or_zero, Nat.pow_one, Nat.mul_comm]
      · rw [w0, if_neg z, show Int32.toInt64 (1 : Int32) = lN 1 from by decide, Nat.pow_one, g_or (k := 1) (p := 2) rfl (by decide) (by rw [Nat.pow_one] at R56; exact Nat.lt_of_lt_of_le (Nat.add_lt_add_right R56 1) (by decide)), Nat.mul_comm]
    rw [this, r52 (stk_n0 hP0) (Nat.lt_trans (stk_lx (b := 56) (by rw [hP4]; exact (Nat.div_lt_iff_lt_mul (by decide)).mpr (Nat.lt_of_lt_of_le c1 (by decide))) (by decide)) (by decide)) (by rw [f1]; clear l1 a1 c1 r64 g64 lS; omega), f1, pk_stk hP0 (fun _ => by rw [hP4]; exact lS)]
  have hM : ∀ w : Int32, decide (¬ w.toInt = 0) = decide (¬ g = 0) → t_M_root_107 w (v3 / (2 : Int32) - (30 : Int32)) (lN S) 0 = lN (pk 52 1023 P (D - 31) false) := fun w hw => by
    unfold t_M_root_107
    rw [s52 (Nat.ne_of_gt (Nat.lt_of_lt_of_le (by decide) l1)) (Nat.lt_trans c1 (by decide)) (by rw [f2]; clear l1 a1 c1 r64 g64 lS; omega), f2, hw, ← dcg hPm, show lN (pk 52 1023 S (D - 31 + ((1 : Nat) : Int)) (decide (P % 2 ^ 1 ≠ 0))) = lN (pk 52 1023 (P / 2 ^ 1) (D - 31 + ((1 : Nat) : Int)) (decide (P % 2 ^ 1 ≠ 0))) from by rw [hP2], pk_flg hP0 (fun _ => by rw [hP2]; exact Nat.le_trans (by decide) l1)]
    exact Int64.or_zero
  rw [lc_ne, lc_eq, show (0 : Int64) = lN 0 from rfl, dcg (not_congr (yL_inj r64 (by decide))), dcg (yL_inj g64 (by decide))]
  have eM : cond (decide (g = 0)) (t_M_root_107 (0 : Int32) (v3 / (2 : Int32) - (30 : Int32)) (lN S) 0) (t_M_root_107 (1 : Int32) (v3 / (2 : Int32) - (30 : Int32)) (lN S) 0) = lN (pk 52 1023 P (D - 31) false) := by
    by_cases hg : g = 0
    · rw [cd_t hg]
      exact hM 0 (by rw [show decide (¬ g = 0) = false from decide_eq_false (fun z => z hg)]; decide)
    · rw [cd_f hg]
      exact hM 1 (by rw [show decide (¬ g = 0) = true from decide_eq_true hg]; decide)
  refine Eq.trans ?_ eM.symm
  by_cases hr : r = 0
  · rw [cd_f (fun z => z hr)]
    exact hL 0 (Or.inl ⟨rfl, hr⟩)
  · rw [cd_t hr]
    exact hL 1 (Or.inr ⟨rfl, hr⟩)
theorem root_M {u : Nat} (hu : u < 2 ^ 64) (h0 : zm u ≠ 0) : t_M_root_25 53 (lN (zm u)) (f_M_power (lN u)) = cond (cn1 .eq ((f_Re_exponent (lN u) - f_Re_gap (lN (zm u))) &&& (1 : Int32))) (t_M_root_44 (lN (zn u)) (f_Re_exponent (lN u) - f_Re_gap (lN (zm u)))) (t_M_root_44 (lN (zn u) <<< (Int32.toInt64 (1 : Int32) &&& 63)) ((f_Re_exponent (lN u) - f_Re_gap (lN (zm u))) + Int32.ofInt (-1))) := by
  have hx := zx_b u
  have b1 := nb_1 (zm u)
  obtain ⟨e1, q1, q2⟩ := nrm_loop (fun n a x => t_M_root_25 n a x) (fun a x => cond (cn1 .eq (x &&& (1 : Int32))) (t_M_root_44 a x) (t_M_root_44 (a <<< (Int32.toInt64 (1 : Int32) &&& 63)) (x + Int32.ofInt (-1)))) (-1) (Or.inr rfl) (fun _ _ _ => rfl) 53 (zm u) _ _ h0 (zm_lt u) (by clear hu; omega) (d_pow hu) (by clear hu; omega) (by clear hu; omega)
  have : e1 = f_Re_exponent (lN u) - f_Re_gap (lN (zm u)) := Int32.toInt_inj.mp (by rw [q1, d_zy hu h0]; unfold zy zg; clear hu q1 q2; omega)
  rw [← this]
  exact q2
theorem root_root {x : Int64} (hk : f_M_kept x = x) : f_Re_root x = f_M_root x := by
  obtain ⟨u, hu, rfl⟩ := d_of x
  unfold f_M_kept at hk
  unfold f_Re_root f_M_root
  rw [d_no hu, cn1_eq_b2i] at hk
  rw [d_nan hu, d_no hu, cn1_ne_b2i]
  by_cases nu : 2047 * 2 ^ 52 < zs u
  · rw [dt nu, Bool.not_true, cond_false] at hk
    rw [dt nu, cond_true, cond_true, hk]
  rw [df nu, cond_false, cond_false]
  unfold t_Re_root_14
  rw [show f_Re_size (lN u) = lN (zs u) from d_size hu, d_inf hu, d_zero hu, cn1_eq_b2i, cn1_eq_b2i, show cn1 .eq (lg_cmp (lN (zs u)) (0 : Int64)) = decide (zs u = 0) from by rw [lc_eq, show (0 : Int64) = lN 0 from rfl, dcg (yL_inj (zs_64 u) (by decide))], sn_ge hu]
  by_cases zu : zs u = 0
  · rw [dt zu, Bool.not_true]
    simp only [cond_true, cond_false]
    cases sn u <;> simp only [Bool.not_true, Bool.not_false, cond_true, cond_false]
  rw [df zu, Bool.not_false]
  simp only [cond_true, cond_false]
  by_cases hs : sn u = true
  · rw [hs, Bool.not_true, cond_false, cond_false]
  rw [Bool.not_eq_true] at hs
  rw [hs, Bool.not_false, cond_true, cond_true]
  have eu : u = zs u := by
    unfold sn at hs
    exact (Nat.mod_eq_of_lt (Nat.lt_of_not_le (of_decide_eq_false hs))).symm
  have hi : (¬ lN u = (9218868437227405312 : Int64)) ↔ ¬ zs u = 2047 * 2 ^ 52 := by
    rw [show (9218868437227405312 : Int64) = lN (2047 * 2 ^ 52) from by decide]
    refine not_congr ((yL_inj hu (by decide)).trans ?_)
    rw [← eu]
  rw [lc_ne, dcg hi]
  by_cases iu : zs u = 2047 * 2 ^ 52
  · rw [dt iu, Bool.not_true, cond_false, cd_f (fun z => z iu)]
  rw [df iu, Bool.not_false, cond_true, cd_t iu]
  have mu := z_m1 zu
  obtain ⟨a1, a2⟩ := zn_b mu
  have hy := zy_b u
  have hd := d_zy hu mu
  rw [d_manR hu, d_manM hu, d_zn mu, root_M hu mu]
  rw [yL_shl (y := 1) (k := 1) rfl (by decide), sq_eq a1 (Nat.lt_trans a2 (by decide)) (by rw [hd]; clear hu nu iu a1 a2 eu hi; omega), sq_eq (m := zn u * 2 ^ 1) (Nat.le_trans a1 (Nat.le_mul_of_pos_right _ (by decide))) (Nat.lt_of_lt_of_le ((Nat.mul_lt_mul_right (by decide)).mpr a2) (by decide)) (by rw [i_add (-1) (by rw [hd]; clear hu nu iu a1 a2 eu hi; omega) (by rw [hd]; clear hu nu iu a1 a2 eu hi; omega) (by decide) (by decide), hd]; clear hu nu iu a1 a2 eu hi; omega)]
