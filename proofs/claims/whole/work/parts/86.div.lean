/-! REALS: the quotient -/
theorem yL_div {a b : Nat} (ha : a < 2 ^ 63) (hb : b < 2 ^ 63) : lN a / lN b = lN (a / b) := by
  apply Int64.toInt_inj.mp
  have hq : a / b < 2 ^ 63 := Nat.lt_of_le_of_lt (Nat.div_le_self _ _) ha
  rw [Int64.toInt_div, yL_i ha, yL_i hb, yL_i hq, show Int.tdiv (a : Int) (b : Int) = ((a / b : Nat) : Int) from rfl]
  obtain ⟨q, hq'⟩ : ∃ q, q = a / b := ⟨_, rfl⟩
  rw [← hq'] at hq ⊢
  have : (q : Int) < ((2 ^ 63 : Nat) : Int) := Int.ofNat_lt.mpr hq
  rw [show ((2 ^ 63 : Nat) : Int) = 9223372036854775808 from by decide] at this
  clear ha hb hq hq'
  exact Int.bmod_eq_of_le (by omega) (by omega)
theorem yL_rem {a b : Nat} (ha : a < 2 ^ 63) (hb : b < 2 ^ 63) : lN a - lN a / lN b * lN b = lN (a % b) := by
  rw [yL_div ha hb, yL_mul, yL_sub (Nat.div_mul_le_self _ _)]
  congr 1
  have := Nat.div_add_mod' a b
  clear ha hb
  omega
/-- six digits of ten bits -/
theorem quo_s {m n k : Nat} (hn : 0 < n) : m * 2 ^ (k + 10) / n = m * 2 ^ k / n * 2 ^ 10 + m * 2 ^ k % n * 2 ^ 10 / n ∧ m * 2 ^ (k + 10) % n = m * 2 ^ k % n * 2 ^ 10 % n := by
  rw [pw_add, ← Nat.mul_assoc]
  generalize m * 2 ^ k = x
  have e := Nat.div_add_mod' x n
  generalize x / n = q at *
  generalize x % n = r at *
  have : x * 2 ^ 10 = r * 2 ^ 10 + q * 2 ^ 10 * n := by rw [← e, Nat.add_mul, Nat.mul_right_comm, Nat.add_comm]
  rw [this, Nat.add_mul_div_right _ _ hn, Nat.add_mul_mod_self_right, Nat.add_comm]
  exact ⟨rfl, rfl⟩
/-- one bit -/
theorem quo_1 {m n k : Nat} (hn : 0 < n) : m * 2 ^ (k + 1) / n = m * 2 ^ k / n * 2 + (if m * 2 ^ k % n * 2 < n then 0 else 1) ∧ m * 2 ^ (k + 1) % n = m * 2 ^ k % n * 2 - (if m * 2 ^ k % n * 2 < n then 0 else n) := by
  rw [pw_add, ← Nat.mul_assoc, Nat.pow_one]
  generalize m * 2 ^ k = x
  have e := Nat.div_add_mod' x n
  have hl := Nat.mod_lt x hn
  generalize x / n = q at *
  generalize x % n = r at *
  have : x * 2 = r * 2 + q * 2 * n := by rw [← e, Nat.add_mul, Nat.mul_right_comm, Nat.add_comm]
  rw [this, Nat.add_mul_div_right _ _ hn, Nat.add_mul_mod_self_right]
  by_cases h : r * 2 < n
  · rw [if_pos h, if_pos h, Nat.div_eq_of_lt h, Nat.mod_eq_of_lt h]
    omega
  · rw [if_neg h, if_neg h]
    have h1 : r * 2 / n = 1 := by
      rw [Nat.div_eq_iff (by omega)]
      omega
    have h2 := Nat.div_add_mod' (r * 2) n
    rw [h1, Nat.one_mul] at h2
    rw [h1]
    omega
theorem quo_86 {m n u v : Nat} {s : Int64} {v6 v7 : Int32} (hn : 0 < n) (hn2 : n < 2 ^ 53) (hm : m < 2 * n) : ∀ (k j : Nat) (w : Int32), k + j = 7 → 1 ≤ k → w.toInt = (j : Int) →
    t_Re_quotient_86 k (lN u) (lN v) s v6 v7 (lN n) (lN (m * 2 ^ (10 * j) % n)) (lN (m * 2 ^ (10 * j) / n)) w = t_Re_quotient_129 (((((f_Re_exponent (lN u)) - v6) - (f_Re_exponent (lN v))) + v7) - (60 : Int32)) (lN (stk (2 * (m * 2 ^ 60 / n) + (if m * 2 ^ 60 % n = 0 then 0 else 1)) 1)) s := by
  intro k
  have n63 : n < 2 ^ 63 := Nat.lt_trans hn2 (by decide)
  induction k with
  | zero => intro j w _ h; exact absurd h (by decide)
  | succ k ih =>
    intro j w hk _ hw
    rw [t_Re_quotient_86, c2_ge, hw, show ((6 : Int32).toInt) = 6 from rfl]
    have hr : m * 2 ^ (10 * j) % n < 2 ^ 53 := Nat.lt_trans (Nat.mod_lt _ hn) hn2
    by_cases h6 : (6 : Int) ≤ (j : Int)
    · have j6 : j = 6 := by clear hn2 n63 hr; omega
      subst j6
      have q61 : m * 2 ^ 60 / n < 2 ^ 61 := by
        rw [Nat.div_lt_iff_lt_mul hn]
        have := (Nat.mul_lt_mul_right (show 0 < 2 ^ 60 by decide)).mpr hm
        rw [show 2 ^ 61 * n = 2 * n * 2 ^ 60 by rw [show 2 ^ 61 = 2 * 2 ^ 60 by decide, Nat.mul_right_comm]]
        exact this
      have q64 : m * 2 ^ 60 / n < 2 ^ 64 := Nat.lt_trans q61 (by decide)
      rw [cd_t h6, show 10 * 6 = 60 from rfl] at *
      rw [lc_ne, show (0 : Int64) = lN 0 from rfl, dcg (not_congr (yL_inj (Nat.lt_trans hr (by decide)) (by decide)))]
      unfold stk
      rw [Nat.pow_one]
      by_cases hz : m * 2 ^ 60 % n = 0
      · rw [cd_f (fun z => z hz), if_pos hz, Nat.add_zero, Nat.mul_mod_right, if_pos rfl, Nat.mul_div_cancel_left _ (by decide)]
      · rw [cd_t hz, if_neg hz]
        have e1 : (2 * (m * 2 ^ 60 / n) + 1) % 2 = 1 := by rw [Nat.mul_add_mod]
        have e2 : (2 * (m * 2 ^ 60 / n) + 1) / 2 = m * 2 ^ 60 / n := by rw [Nat.mul_add_div (by decide)]; exact Nat.add_zero _
        rw [e1, e2, if_neg (by decide), show (1 : Int64) = lN 1 from rfl, wb_or q64 (by decide), stk_or]
    · rw [cd_f h6]
      have hj : j ≤ 5 := by clear hn2 n63 hr; omega
      have hr63 : m * 2 ^ (10 * j) % n * 2 ^ 10 < 2 ^ 63 := (Nat.mul_lt_mul_right (by decide)).mpr hr
      have hq : m * 2 ^ (10 * j) / n < 2 ^ 51 := by
        rw [Nat.div_lt_iff_lt_mul hn]
        have h1 := Nat.mul_le_mul_left m (Nat.pow_le_pow_right (show 0 < 2 by decide) (show 10 * j ≤ 50 by clear hn2 n63 hr hr63; omega))
        have h2 := (Nat.mul_lt_mul_right (show 0 < 2 ^ 50 by decide)).mpr hm
        rw [show 2 ^ 51 * n = 2 * n * 2 ^ 50 by rw [show 2 ^ 51 = 2 * 2 ^ 50 by decide, Nat.mul_right_comm]]
        exact Nat.lt_of_le_of_lt h1 h2
      obtain ⟨e1, e2⟩ := quo_s (m := m) (k := 10 * j) hn
      rw [yL_shl (y := 10) (k := 10) rfl (by decide), yL_shl (y := 10) (k := 10) rfl (by decide), yL_rem hr63 n63, yL_div hr63 n63]
      have hd : m * 2 ^ (10 * j) % n * 2 ^ 10 / n < 2 ^ 10 := by
        rw [Nat.div_lt_iff_lt_mul hn, Nat.mul_comm (2 ^ 10)]
        exact (Nat.mul_lt_mul_right (by decide)).mpr (Nat.mod_lt _ hn)
      rw [g_or (k := 10) rfl hd (by
        have := Nat.mul_le_mul_right (2 ^ 10) (Nat.succ_le_of_lt hq)
        rw [Nat.succ_mul] at this
        exact Nat.lt_of_lt_of_le (Nat.add_lt_add_left hd _) (Nat.le_trans this (by decide))), ← e1, ← e2, show 10 * j + 10 = 10 * (j + 1) from rfl]
      exact ih (j + 1) _ (by clear hn2 n63 hr hr63 hq hd; omega) (by clear hn2 n63 hr hr63 hq hd; omega) (by rw [i_add 1 (by rw [hw]; clear hn2 n63 hr hr63 hq hd; omega) (by rw [hw]; clear hn2 n63 hr hr63 hq hd; omega) (by decide) (by decide), hw]; rfl)
/-- the reference, a bit at a time -/
theorem quo_99 {m n : Nat} {v4 v9 : Int32} (hn : 0 < n) (hn2 : n < 2 ^ 53) (hm : m < 2 * n) : ∀ (k j : Nat) (w : Int32), k + j = 60 → w.toInt = (j : Int) + 1 →
    t_M_by_99 k v4 (lN (m * 2 ^ j % n * 2)) (lN n) v9 (lN (m * 2 ^ j / n)) w = cond (decide (m * 2 ^ 59 % n = 0)) (t_M_by_136 (0 : Int32) (v9 - (59 : Int32)) (lN (m * 2 ^ 59 / n)) v4) (t_M_by_136 (1 : Int32) (v9 - (59 : Int32)) (lN (m * 2 ^ 59 / n)) v4) ∨ k = 0 := by
  intro k
  have n63 : n < 2 ^ 63 := Nat.lt_trans hn2 (by decide)
  induction k with
  | zero => intro j w _ h; exact Or.inr rfl
  | succ k ih =>
    intro j w hk hw
    refine Or.inl ?_
    have hr : m * 2 ^ j % n * 2 < 2 ^ 54 := by
      have := (Nat.mul_lt_mul_right (show 0 < 2 by decide)).mpr (Nat.lt_trans (Nat.mod_lt (m * 2 ^ j) hn) hn2)
      exact this
    rw [t_M_by_99, c2_ge, hw, show ((60 : Int32).toInt) = 60 from rfl]
    by_cases h6 : (60 : Int) ≤ (j : Int) + 1
    · have j6 : j = 59 := by clear hn2 n63 hr; omega
      subst j6
      rw [cd_t h6, lc_eq, show (0 : Int64) = lN 0 from rfl, dcg (yL_inj (Nat.lt_trans hr (by decide)) (by decide)), dcg (show m * 2 ^ 59 % n * 2 = 0 ↔ m * 2 ^ 59 % n = 0 from ⟨fun z => (Nat.mul_eq_zero.mp z).resolve_right (by decide), fun z => by rw [z]⟩)]
    · rw [cd_f h6, lc_lt, yL_i (Nat.lt_trans hr (by decide)), yL_i n63, dcg Int.ofNat_lt]
      obtain ⟨e1, e2⟩ := quo_1 (m := m) (k := j) hn
      have k1 : ∀ P, P ∨ k = 0 → P := fun P h => h.resolve_right (by clear hn2 n63 hr; omega)
      have w1 : (w + Int32.ofInt 1).toInt = ((j + 1 : Nat) : Int) + 1 := by
        rw [i_add 1 (by rw [hw]; clear hn2 n63 hr; omega) (by rw [hw]; clear hn2 n63 hr; omega) (by decide) (by decide), hw]
        rfl
      have := k1 _ (ih (j + 1) _ (by clear hn2 n63 hr; omega) w1)
      rw [e1, e2] at this
      by_cases h : m * 2 ^ j % n * 2 < n
      · rw [if_pos h, if_pos h, Nat.add_zero, Nat.sub_zero] at this
        rw [cd_t h, yL_shl (y := 1) (k := 1) rfl (by decide), yL_shl (y := 1) (k := 1) rfl (by decide), Nat.pow_one]
        exact this
      · rw [if_neg h, if_neg h] at this
        rw [cd_f h, yL_sub (Nat.le_of_not_lt h), yL_shl (y := 1) (k := 1) rfl (by decide), yL_shl (y := 1) (k := 1) rfl (by decide), Nat.pow_one, show (1 : Int64) = lN 1 from rfl, yL_add]
        exact this
theorem quo_P {m n : Nat} (hn : 0 < n) : (2 * (m * 2 ^ 60 / n) + (if m * 2 ^ 60 % n = 0 then 0 else 1)) / 2 ^ 2 = m * 2 ^ 59 / n ∧ ((2 * (m * 2 ^ 60 / n) + (if m * 2 ^ 60 % n = 0 then 0 else 1)) % 2 ^ 2 ≠ 0 ↔ ¬ m * 2 ^ 59 % n = 0) := by
  obtain ⟨e1, e2⟩ := quo_1 (m := m) (k := 59) hn
  have hl := Nat.mod_lt (m * 2 ^ 59) hn
  rw [show 59 + 1 = 60 from rfl] at e1 e2
  rw [e1, e2, show 2 ^ 2 = 4 from rfl]
  clear e1 e2
  obtain ⟨q, hq⟩ : ∃ q, q = m * 2 ^ 59 / n := ⟨_, rfl⟩
  obtain ⟨r, hr⟩ : ∃ r, r = m * 2 ^ 59 % n := ⟨_, rfl⟩
  rw [← hr] at hl
  rw [← hq, ← hr]
  clear hq hr
  by_cases h : r * 2 < n
  · rw [if_pos h, if_pos h]
    by_cases hz : r * 2 - 0 = 0
    · rw [if_pos hz]; omega
    · rw [if_neg hz]; omega
  · rw [if_neg h, if_neg h]
    by_cases hz : r * 2 - n = 0
    · rw [if_pos hz]; omega
    · rw [if_neg hz]; omega
theorem quo_b {m n : Nat} (hm : 2 ^ 52 ≤ m) (hn : 0 < n) (hn2 : n < 2 ^ 53) : 2 ^ 59 ≤ m * 2 ^ 60 / n ∧ 2 ^ 58 ≤ m * 2 ^ 59 / n := by
  constructor
  · rw [Nat.le_div_iff_mul_le hn]
    exact Nat.le_trans (Nat.mul_le_mul_left _ (Nat.le_of_lt hn2)) (Nat.le_trans (by decide) (Nat.mul_le_mul_right _ hm))
  · rw [Nat.le_div_iff_mul_le hn]
    exact Nat.le_trans (Nat.mul_le_mul_left _ (Nat.le_of_lt hn2)) (Nat.le_trans (by decide) (Nat.mul_le_mul_right _ hm))
theorem quo_c {m n k : Nat} (hm : m < 2 * n) (hn : 0 < n) : m * 2 ^ k / n < 2 ^ (k + 1) := by
  rw [Nat.div_lt_iff_lt_mul hn]
  have h2 := (Nat.mul_lt_mul_right (pw_pos k)).mpr hm
  rw [show 2 ^ (k + 1) * n = 2 * n * 2 ^ k by rw [Nat.pow_succ, Nat.mul_comm (2 ^ k) 2, Nat.mul_right_comm]]
  exact h2
theorem stk_lx {S d b : Nat} (h : S / 2 ^ d < 2 ^ b) (hb : 1 ≤ b) : stk S d < 2 ^ b := by
  have hh := pw_half hb
  unfold stk
  generalize S / 2 ^ d = q at *
  split <;> omega
/-- the class's quotient of finite reals -/
theorem quo_R {u v : Nat} {s : Int64} (hu : u < 2 ^ 64) (hv : v < 2 ^ 64) (h0 : zm u ≠ 0) (h1 : zm v ≠ 0) :
    t_Re_quotient_80 (lN u) (lN v) s (f_Re_gap (lN (zm u))) (f_Re_gap (lN (zm v))) (lN (zn v)) (lN (zn u)) (lN (zn u) / lN (zn v)) = s ||| lN (pk 52 1023 (2 * (zn u * 2 ^ 60 / zn v) + (if zn u * 2 ^ 60 % zn v = 0 then 0 else 1)) (zy u - zy v - 61) false) := by
  obtain ⟨a1, a2⟩ := zn_b h0
  obtain ⟨b1, b2⟩ := zn_b h1
  have hn : 0 < zn v := Nat.lt_of_lt_of_le (by decide) b1
  have hm : zn u < 2 * zn v := Nat.lt_of_lt_of_le a2 (Nat.le_trans (by decide) (Nat.mul_le_mul_left 2 b1))
  have a63 : zn u < 2 ^ 63 := Nat.lt_trans a2 (by decide)
  have b63 : zn v < 2 ^ 63 := Nat.lt_trans b2 (by decide)
  unfold t_Re_quotient_80
  rw [yL_rem a63 b63, yL_div a63 b63]
  have := quo_86 (u := u) (v := v) (s := s) (v6 := f_Re_gap (lN (zm u))) (v7 := f_Re_gap (lN (zm v))) hn b2 hm 7 0 0 rfl (by decide) rfl
  rw [Nat.mul_zero, Nat.pow_zero, Nat.mul_one] at this
  rw [this]
  unfold t_Re_quotient_129
  obtain ⟨c1, c2⟩ := quo_b a1 hn b2
  have c3 := quo_c (k := 60) hm hn
  have hx := zx_b u
  have hy := zx_b v
  have hX := zy_b u
  have hY := zy_b v
  have gu := zg_lt (u := u)
  have gv := zg_lt (u := v)
  have e2 := i_subn (d_zy hu h0) (d_exp hv) (by clear hu hv c1 c2 c3; omega) (by clear hu hv c1 c2 c3; omega) (by clear hu hv c1 c2 c3; omega) (by clear hu hv c1 c2 c3; omega)
  have e3 := i_addy e2 (d_gap h1) (by clear hu hv c1 c2 c3; omega) (by clear hu hv c1 c2 c3; omega)
  have e4 : (f_Re_exponent (lN u) - f_Re_gap (lN (zm u)) - f_Re_exponent (lN v) + f_Re_gap (lN (zm v)) - (60 : Int32)).toInt = zy u - zy v - 61 + ((1 : Nat) : Int) := by
    rw [i_subn e3 (show ((60 : Int32).toInt) = 60 from rfl) (by clear hu hv c1 c2 c3; omega) (by clear hu hv c1 c2 c3; omega) (by clear hu hv c1 c2 c3; omega) (by clear hu hv c1 c2 c3; omega)]
    unfold zy
    clear hu hv c1 c2 c3
    omega
  have hP0 : 2 * (zn u * 2 ^ 60 / zn v) + (if zn u * 2 ^ 60 % zn v = 0 then 0 else 1) ≠ 0 := fun z => by
    have z1 := (Nat.mul_eq_zero.mp (Nat.add_eq_zero_iff.mp z).1).resolve_left (by decide)
    rw [z1] at c1
    exact absurd c1 (by decide)
  have hPd : (2 * (zn u * 2 ^ 60 / zn v) + (if zn u * 2 ^ 60 % zn v = 0 then 0 else 1)) / 2 ^ 1 = zn u * 2 ^ 60 / zn v := by
    clear hu hv c1 c2 c3 a1 a2 b1 b2 a63 b63
    rw [Nat.pow_one]
    split <;> omega
  rw [r52 (stk_n0 hP0) (Nat.lt_trans (stk_lx (b := 61) (by rw [hPd]; exact c3) (by decide)) (by decide)) (by rw [e4]; clear hu hv c1 c2 c3; omega), e4, pk_stk hP0 (fun _ => by rw [hPd]; exact Nat.le_trans (by decide) c1)]
theorem quo_M {u v : Nat} {b : Bool} (hu : u < 2 ^ 64) (hv : v < 2 ^ 64) (h0 : zm u ≠ 0) (h1 : zm v ≠ 0) :
    t_M_by_75 53 (cond b 1 0) (lN (zm u)) (lN (zm v)) (f_M_power (lN u) - f_M_power (lN v)) = lN (pk 52 1023 (2 * (zn u * 2 ^ 60 / zn v) + (if zn u * 2 ^ 60 % zn v = 0 then 0 else 1)) (zy u - zy v - 61) false) ||| SG b := by
  have hx := zx_b u
  have hy := zx_b v
  have hX := zy_b u
  have hY := zy_b v
  have b1 := nb_1 (zm u)
  have b2 := nb_1 (zm v)
  have e : (f_M_power (lN u) - f_M_power (lN v)).toInt = zx u - zx v := i_subn (d_pow hu) (d_pow hv) (by clear hu hv; omega) (by clear hu hv; omega) (by clear hu hv; omega) (by clear hu hv; omega)
  obtain ⟨e1, q1, q2⟩ := nrm_loop (fun n a x => t_M_by_75 n (cond b 1 0) a (lN (zm v)) x) (fun a x => t_M_by_85 53 (cond b 1 0) a (lN (zm v)) x) (-1) (Or.inr rfl) (fun _ _ _ => rfl) 53 (zm u) _ _ h0 (zm_lt u) (by clear hu hv; omega) e (by clear hu hv; omega) (by clear hu hv; omega)
  obtain ⟨e2, q3, q4⟩ := nrm_loop (fun n a x => t_M_by_85 n (cond b 1 0) (lN (zn u)) a x) (fun a x => t_M_by_99 61 (cond b 1 0) (lN (zn u)) a x 0 0) 1 (Or.inl rfl) (fun _ _ _ => rfl) 53 (zm v) e1 _ h1 (zm_lt v) (by clear hu hv; omega) q1 (by clear hu hv; omega) (by clear hu hv; omega)
  have e3 : e2.toInt = zy u - zy v := by
    rw [q3]
    unfold zy zg
    clear hu hv q1 q2 q3 q4
    omega
  refine Eq.trans q2 (Eq.trans q4 ?_)
  show t_M_by_99 (60 + 1) _ _ (lN (zn v)) e2 0 0 = _
  obtain ⟨a1, a2⟩ := zn_b h0
  obtain ⟨b1, b2⟩ := zn_b h1
  clear q1 q2 q3 q4
  have hn : 0 < zn v := Nat.lt_of_lt_of_le (by decide) b1
  have hm : zn u < 2 * zn v := Nat.lt_of_lt_of_le a2 (Nat.le_trans (by decide) (Nat.mul_le_mul_left 2 b1))
  have a63 : zn u < 2 ^ 63 := Nat.lt_trans a2 (by decide)
  have b63 : zn v < 2 ^ 63 := Nat.lt_trans b2 (by decide)
  have hq := (quo_99 (v4 := cond b 1 0) (v9 := e2) hn b2 hm 60 0 1 rfl rfl).resolve_right (by decide)
  rw [Nat.pow_zero, Nat.mul_one] at hq
  have hst : t_M_by_99 (60 + 1) (cond b 1 0) (lN (zn u)) (lN (zn v)) e2 0 0 = t_M_by_99 60 (cond b 1 0) (lN (zn u % zn v * 2)) (lN (zn v)) e2 (lN (zn u / zn v)) 1 := by
    rw [t_M_by_99, show cn2 .ge (0 : Int32) (60 : Int32) = false from rfl, cond_false, lc_lt, yL_i a63, yL_i b63, dcg Int.ofNat_lt, show (0 : Int32) + Int32.ofInt 1 = 1 from rfl]
    by_cases h : zn u < zn v
    · rw [cd_t h, Nat.mod_eq_of_lt h, Nat.div_eq_of_lt h, yL_shl (y := 1) (k := 1) rfl (by decide), Nat.pow_one]
      rfl
    · have h' := Nat.le_of_not_lt h
      have hd : zn u / zn v = 1 := by
        rw [Nat.div_eq_iff hn]
        clear hu hv a1 a2 b1 b2 a63 b63 hq
        omega
      have hmd : zn u % zn v = zn u - zn v := by
        have := Nat.div_add_mod' (zn u) (zn v)
        rw [hd, Nat.one_mul] at this
        clear hu hv a1 a2 b1 b2 a63 b63 hq
        omega
      rw [cd_f h, hmd, hd, yL_sub h', yL_shl (y := 1) (k := 1) rfl (by decide), Nat.pow_one]
      rfl
  rw [hst, hq]
  unfold t_M_by_136
  obtain ⟨c1, c2⟩ := quo_b a1 hn b2
  have c3 := quo_c (k := 59) hm hn
  obtain ⟨p1, p2⟩ := quo_P (m := zn u) hn
  have hP0 : 2 * (zn u * 2 ^ 60 / zn v) + (if zn u * 2 ^ 60 % zn v = 0 then 0 else 1) ≠ 0 := fun z => by
    have z1 := (Nat.mul_eq_zero.mp (Nat.add_eq_zero_iff.mp z).1).resolve_left (by decide)
    rw [z1] at c1
    exact absurd c1 (by decide)
  have e4 : (e2 - (59 : Int32)).toInt = zy u - zy v - 61 + ((2 : Nat) : Int) := by
    rw [i_subn e3 (show ((59 : Int32).toInt) = 59 from rfl) (by clear hu hv c1 c2 c3; omega) (by clear hu hv c1 c2 c3; omega) (by clear hu hv c1 c2 c3; omega) (by clear hu hv c1 c2 c3; omega)]
    clear hu hv c1 c2 c3
    omega
  have hfin : ∀ w : Int32, decide (¬ w.toInt = 0) = decide (¬ zn u * 2 ^ 59 % zn v = 0) → f_M_signed (cond b 1 0) (lN (zn u * 2 ^ 59 / zn v)) (e2 - (59 : Int32)) w = lN (pk 52 1023 (2 * (zn u * 2 ^ 60 / zn v) + (if zn u * 2 ^ 60 % zn v = 0 then 0 else 1)) (zy u - zy v - 61) false) ||| SG b := fun w hw => by
    rw [s52 (Nat.ne_of_gt (Nat.lt_of_lt_of_le (by decide) c2)) (Nat.lt_trans c3 (by decide)) (by rw [e4]; clear hu hv c1 c2 c3; omega), e4, hw, ← dcg p2, ← p1, pk_flg hP0 (fun _ => by rw [p1]; exact Nat.le_trans (by decide) c2), sgx]
  by_cases hz : zn u * 2 ^ 59 % zn v = 0
  · rw [cd_t hz]
    exact hfin 0 (by rw [show decide (¬ zn u * 2 ^ 59 % zn v = 0) = false from decide_eq_false (fun z => z hz)]; decide)
  · rw [cd_f hz]
    exact hfin 1 (by rw [show decide (¬ zn u * 2 ^ 59 % zn v = 0) = true from decide_eq_true hz]; decide)
theorem dt {p : Prop} [Decidable p] (h : p) : decide p = true := decide_eq_true h
theorem df {p : Prop} [Decidable p] (h : ¬ p) : decide p = false := decide_eq_false h
theorem dn {p : Prop} [Decidable p] : decide (¬ p) = !(decide p) := by by_cases h : p <;> simp [h]
theorem quotient_by (x y : Int64) : f_Re_quotient x y = f_M_by x y := by
  obtain ⟨u, hu, rfl⟩ := d_of x
  obtain ⟨v, hv, rfl⟩ := d_of y
  unfold f_Re_quotient f_M_by t_M_by_12 t_M_by_20 t_M_by_27 t_M_by_34
  rw [d_nan hu, d_nan hv, d_no hu, d_no hv, cn1_ne_b2i, cn1_ne_b2i, cn1_eq_b2i]
  by_cases nu : 2047 * 2 ^ 52 < zs u
  · rw [cd_t nu, cd_t nu]
  rw [cd_f nu, cd_f nu]
  by_cases nv : 2047 * 2 ^ 52 < zs v
  · rw [dt nv, Bool.not_true, cond_false, cond_true]
  rw [df nv, Bool.not_false, cond_true, cond_false, sn_ge hu, sn_ge hv, cc5 (fun z => t_M_by_38 (lN u) (lN v) z) (sn u) (sn v), sx_and hu hv]
  generalize (sn u != sn v) = b
  unfold t_Re_quotient_24 t_M_by_38 t_M_by_45 t_M_by_57
  rw [show f_Re_size (lN u) = lN (zs u) from d_size hu, show f_Re_size (lN v) = lN (zs v) from d_size hv, d_inf hu, d_inf hv, d_zero hu, d_zero hv, cn1_ne_b2i, cn1_eq_b2i, cn1_ne_b2i, cn1_eq_b2i, cn1_ne_b2i, cn1_eq_b2i, cn1_eq_b2i]
  have z1 : cn1 .eq (lg_cmp (lN (zs u)) (9218868437227405312 : Int64)) = decide (zs u = 2047 * 2 ^ 52) := by rw [lc_eq, show (9218868437227405312 : Int64) = lN (2047 * 2 ^ 52) from by decide, dcg (yL_inj (zs_64 u) (by decide))]
  have z2 : cn1 .eq (lg_cmp (lN (zs v)) (9218868437227405312 : Int64)) = decide (zs v = 2047 * 2 ^ 52) := by rw [lc_eq, show (9218868437227405312 : Int64) = lN (2047 * 2 ^ 52) from by decide, dcg (yL_inj (zs_64 v) (by decide))]
  have z3 : cn1 .ne (lg_cmp (lN (zs u)) (0 : Int64)) = !(decide (zs u = 0)) := by rw [lc_ne, show (0 : Int64) = lN 0 from rfl, dcg (not_congr (yL_inj (zs_64 u) (by decide))), dn]
  have z4 : cn1 .ne (lg_cmp (lN (zs v)) (0 : Int64)) = !(decide (zs v = 0)) := by rw [lc_ne, show (0 : Int64) = lN 0 from rfl, dcg (not_congr (yL_inj (zs_64 v) (by decide))), dn]
  rw [z1, z2, z3, z4, sg_inf, sg_0]
  by_cases iu : zs u = 2047 * 2 ^ 52
  · have zu : ¬ zs u = 0 := by rw [iu]; decide
    rw [dt iu, df zu, Bool.not_true, Bool.not_false]
    simp only [cond_true, cond_false]
  · rw [df iu, Bool.not_false]
    simp only [cond_true, cond_false]
    by_cases zv : zs v = 0
    · have iv : ¬ zs v = 2047 * 2 ^ 52 := by rw [zv]; decide
      rw [dt zv, df iv, Bool.not_true, Bool.not_false]
      simp only [cond_true, cond_false]
    · rw [df zv, Bool.not_false]
      simp only [cond_true, cond_false]
      by_cases iv : zs v = 2047 * 2 ^ 52
      · rw [dt iv, Bool.not_true]
        simp only [cond_true, cond_false]
        by_cases zu : zs u = 0
        · rw [dt zu, Bool.not_true]
          simp only [cond_true, cond_false]
        · rw [df zu, Bool.not_false]
          simp only [cond_true, cond_false]
      · rw [df iv, Bool.not_false]
        simp only [cond_true, cond_false]
        by_cases zu : zs u = 0
        · rw [dt zu, Bool.not_true]
          simp only [cond_true, cond_false]
        · rw [df zu, Bool.not_false]
          simp only [cond_true, cond_false]
          have mu := z_m1 zu
          have mv := z_m1 zv
          have nn : ¬ lN (zn v) = 0 := fun z => by
            have := (yL_inj (b := 0) (Nat.lt_trans (zn_b mv).2 (by decide)) (by decide)).mp z
            exact absurd this (Nat.ne_of_gt (Nat.lt_of_lt_of_le (by decide) (zn_b mv).1))
          rw [d_manM hu, d_manM hv, d_manR hu, d_manR hv, quo_M hu hv mu mv, d_zn mu, d_zn mv, lc_ne, cd_t nn, quo_R hu hv mu mv, Int64.or_comm]
