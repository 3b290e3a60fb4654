/-! REALS: the sums are the same -/
def sn (u : Nat) : Bool := decide (2 ^ 63 ≤ u)
theorem sn_ge {u : Nat} (hu : u < 2 ^ 64) : cn1 .ge (lg_cmp (lN u) (0 : Int64)) = !(sn u) := by
  rw [lc_ge, show ((0 : Int64).toInt) = 0 from rfl]
  unfold sn
  by_cases h : 2 ^ 63 ≤ u
  · rw [decide_eq_true h, decide_eq_false (Int.not_le.mpr ((d_neg hu).mpr h))]
    rfl
  · rw [decide_eq_false h, decide_eq_true (Int.not_lt.mp (fun z => h ((d_neg hu).mp z)))]
    rfl
theorem cc3 {α : Type} (a b c : Bool) (x y : α) : cond a (cond b x y) (cond c x y) = cond (cond a b c) x y := by cases a <;> rfl
theorem cc2 {α : Type} (a : Bool) (f : Int32 → α) : cond a (f 0) (f 1) = f (cond a 0 1) := by cases a <;> rfl
theorem cc7 {α : Type} (f : Int32 → Int32 → Int32 → α) (a b : Bool) : cond (!a) (cond (!a) (cond (!b) (f 0 0 0) (f 0 1 0)) (cond (!b) (f 0 0 1) (f 0 1 1))) (cond (!a) (cond (!b) (f 1 0 0) (f 1 1 0)) (cond (!b) (f 1 0 1) (f 1 1 1))) = f (cond a 1 0) (cond b 1 0) (cond a 1 0) := by cases a <;> cases b <;> rfl
theorem add_105 {b k : Nat} {v4 v6 : Int64} {v9 v14 w0 : Int32} {v10 : Int64} {n : Nat} (hn : n < 2 ^ 53) (h14 : v14.toInt = (k : Int)) : t_M_added_105 v4 v6 v9 v10 (lN n) v14 w0 = t_M_added_114 v4 v6 v9 v10 w0 (lN (n / 2 ^ k)) := by
  unfold t_M_added_105
  rw [c2_le, h14, show ((62 : Int32).toInt) = 62 from rfl]
  by_cases h : (k : Int) ≤ 62
  · rw [cd_t h, yL_shr h14 (by clear hn; omega) (Nat.lt_trans hn (by decide))]
  · rw [cd_f h, Nat.div_eq_of_lt (Nat.lt_of_lt_of_le hn (Nat.pow_le_pow_right (by decide) (by clear hn; omega)))]
    rfl
theorem add_114 {a b : Nat} {v9 v15 : Int32} {v10 w : Int64} (ha : a < 2 ^ 64) (hb : b < 2 ^ 64) : t_M_added_114 (lN a) (lN b) v9 v10 v15 w = t_M_added_137 (lN a) v9 v10 w v15 (cond (sn a) 1 0) (cond (sn b) 1 0) (cond (sn a) 1 0) := by
  unfold t_M_added_114 t_M_added_122 t_M_added_130
  rw [sn_ge ha, sn_ge hb]
  exact cc7 (fun x y z => t_M_added_137 (lN a) v9 v10 w v15 x y z) (sn a) (sn b)
theorem b01 (b : Bool) : ((cond b 1 0 : Int32).toInt = 0 ↔ b = false) ∧ ((cond b 1 0 : Int32).toInt = 0 ∨ (cond b 1 0 : Int32).toInt = 1) := by cases b <;> exact ⟨by decide, by decide⟩
theorem b01e (b c : Bool) : (cond b 1 0 : Int32).toInt = (cond c 1 0 : Int32).toInt ↔ b = c := by cases b <;> cases c <;> decide
theorem sg_i (b : Bool) : (if (cond b 1 0 : Int32).toInt = 0 then (0 : Int64) else -9223372036854775808) = SG b := by cases b <;> decide
theorem sg_j (b : Bool) : (if (cond b 1 0 : Int32).toInt = 0 then (-9223372036854775808 : Int64) else 0) = SG (!b) := by cases b <;> decide
theorem add_68 {a b f up down : Nat} {v8 w0 : Int32} (ha : a < 2 ^ 64) (hb : b < 2 ^ 64) (hf : zx a - zx b = (f : Int)) (h8 : v8.toInt = (f : Int)) (hw : w0.toInt = (up : Int)) (hup : up ≤ 9) (hfu : f = up + down) (hud : down ≠ 0 → up = 9) :
    t_M_added_68 (lN a) (lN b) v8 w0 =
      if sn a = sn b then (if zm a * 2 ^ f + zm b = 0 then 0 else lN (pk 52 1023 (zm a * 2 ^ f + zm b) (zx b) false) ||| SG (sn a))
      else if zm b ≤ zm a * 2 ^ f then (if zm a * 2 ^ f - zm b = 0 then 0 else lN (pk 52 1023 (zm a * 2 ^ f - zm b) (zx b) false) ||| SG (sn a))
      else lN (pk 52 1023 (zm b - zm a * 2 ^ f) (zx b) false) ||| SG (!(sn a)) := by
  have hx := zx_b a
  have hy := zx_b b
  have e14 : (v8 - w0).toInt = (down : Int) := by
    rw [i_subn h8 hw (by clear ha hb; omega) (by clear ha hb; omega) (by clear ha hb; omega) (by clear ha hb; omega)]
    clear ha hb
    omega
  unfold t_M_added_68
  rw [d_manM ha, d_manM hb, yL_shl hw (by clear ha hb; omega), lc_eq, lc_eq, cc3, fl_t (zm_lt b) e14]
  rw [cc2 (decide (zm b % 2 ^ down = 0)) (fun z => t_M_added_105 (lN a) (lN b) w0 (lN (zm a * 2 ^ up)) (lN (zm b)) (v8 - w0) z)]
  rw [add_105 (b := b) (zm_lt b) e14, add_114 ha hb]
  have h15 : decide (¬ (cond (decide (zm b % 2 ^ down = 0)) (0 : Int32) 1).toInt = 0) = decide (zm b % 2 ^ down ≠ 0) := by
    by_cases hz : zm b % 2 ^ down = 0
    · rw [cd_t hz, show decide (zm b % 2 ^ down ≠ 0) = false from decide_eq_false (fun z => z hz)]
      decide
    · rw [cd_f hz, show decide (zm b % 2 ^ down ≠ 0) = true from decide_eq_true hz]
      decide
  rw [add_137 ha hb hw hup hf hfu hud h15 (b01 _).2, sg_i, sg_j]
  exact ite_cg (b01e _ _) _ _
theorem add_55 {a b f : Nat} (ha : a < 2 ^ 64) (hb : b < 2 ^ 64) (hf : zx a - zx b = (f : Int)) :
    t_M_added_55 (lN a) (lN b) =
      if sn a = sn b then (if zm a * 2 ^ f + zm b = 0 then 0 else lN (pk 52 1023 (zm a * 2 ^ f + zm b) (zx b) false) ||| SG (sn a))
      else if zm b ≤ zm a * 2 ^ f then (if zm a * 2 ^ f - zm b = 0 then 0 else lN (pk 52 1023 (zm a * 2 ^ f - zm b) (zx b) false) ||| SG (sn a))
      else lN (pk 52 1023 (zm b - zm a * 2 ^ f) (zx b) false) ||| SG (!(sn a)) := by
  have hx := zx_b a
  have hy := zx_b b
  have e8 : (f_M_power (lN a) - f_M_power (lN b)).toInt = (f : Int) := by rw [i_subn (d_pow ha) (d_pow hb) (by clear ha hb; omega) (by clear ha hb; omega) (by clear ha hb; omega) (by clear ha hb; omega), hf]
  unfold t_M_added_55
  rw [c2_ge, e8, show ((9 : Int32).toInt) = 9 from rfl]
  by_cases h : (9 : Int) ≤ (f : Int)
  · rw [cd_t h]
    exact add_68 (up := 9) (down := f - 9) ha hb hf e8 rfl (by decide) (by clear ha hb; omega) (fun _ => rfl)
  · rw [cd_f h]
    exact add_68 (up := f) (down := 0) ha hb hf e8 e8 (by clear ha hb; omega) (by clear ha hb; omega) (fun z => absurd rfl z)
theorem sgn_and {u : Nat} (hu : u < 2 ^ 64) : lN u &&& (-9223372036854775808) = SG (sn u) := by
  rw [show (-9223372036854775808 : Int64) = lN (2 ^ 63) from by decide, wb_and hu (by decide)]
  have h1 : (u &&& 2 ^ 63) / 2 ^ 63 = u / 2 ^ 63 % 2 := by
    rw [Nat.and_div_two_pow, show 2 ^ 63 / 2 ^ 63 = 2 ^ 1 - 1 from by decide, Nat.and_two_pow_sub_one_eq_mod, Nat.pow_one]
  have h2 : (u &&& 2 ^ 63) % 2 ^ 63 = 0 := by rw [Nat.and_mod_two_pow, Nat.mod_self, Nat.and_zero]
  have h3 := Nat.div_add_mod (u &&& 2 ^ 63) (2 ^ 63)
  rw [h1, h2, Nat.add_zero] at h3
  unfold sn SG
  by_cases h : 2 ^ 63 ≤ u
  · have hq : u / 2 ^ 63 = 1 := by
      have h4 : 1 ≤ u / 2 ^ 63 := (Nat.le_div_iff_mul_le (by decide)).mpr (by rw [Nat.one_mul]; exact h)
      have h5 : u / 2 ^ 63 < 2 := (Nat.div_lt_iff_lt_mul (by decide)).mpr hu
      clear hu h h3 h2 h1
      omega
    rw [hq] at h3
    rw [decide_eq_true h, if_pos rfl, ← h3]
    decide
  · rw [Nat.div_eq_of_lt (Nat.lt_of_not_le h)] at h3
    rw [decide_eq_false h, if_neg (by decide), ← h3]
    decide
theorem sn_xor {u v : Nat} (hu : u < 2 ^ 64) (hv : v < 2 ^ 64) : cn1 .lt (lg_cmp (lN u ^^^ lN v) (0 : Int64)) = (sn u != sn v) := by
  rw [lN_xor, lc_lt, show ((0 : Int64).toInt) = 0 from rfl]
  have hx : u ^^^ v < 2 ^ 64 := Nat.xor_lt_two_pow hu hv
  rw [dcg (d_neg hx)]
  have t1 : ∀ w, w < 2 ^ 64 → (decide (2 ^ 63 ≤ w) = w.testBit 63) := fun w hw => by
    rw [Nat.testBit_eq_decide_div_mod_eq]
    apply dcg
    have h5 : w / 2 ^ 63 < 2 := (Nat.div_lt_iff_lt_mul (by decide)).mpr hw
    rw [← Nat.one_mul (2 ^ 63), ← Nat.le_div_iff_mul_le (by decide), Nat.one_mul]
    clear hw
    omega
  unfold sn
  rw [t1 _ hx, t1 _ hu, t1 _ hv, Nat.testBit_xor]
