/-! REALS: the reference's sum of finite reals -/
abbrev SG (b : Bool) : Int64 := if b = true then -9223372036854775808 else 0
theorem fl_t {n k : Nat} {y : Int32} (hn : n < 2 ^ 53) (hy : y.toInt = (k : Int)) : cond (cn2 .le y (62 : Int32)) (decide ((lN n &&& ((1 : Int64) <<< (Int32.toInt64 y &&& 63) - (1 : Int64))) = 0)) (decide (lN n = 0)) = decide (n % 2 ^ k = 0) := by
  have hn64 : n < 2 ^ 64 := Nat.lt_trans hn (by decide)
  rw [c2_le, hy, show ((62 : Int32).toInt) = 62 from rfl]
  by_cases h : (k : Int) ≤ 62
  · have hk : k < 64 := by clear hn hn64; omega
    rw [cd_t h, msk hy hk, yL_and hk hn64]
    exact dcg (yL_inj (b := 0) (Nat.lt_of_le_of_lt (Nat.mod_le _ _) hn64) (by decide))
  · rw [cd_f h]
    have : n % 2 ^ k = n := Nat.mod_eq_of_lt (Nat.lt_of_lt_of_le hn (Nat.pow_le_pow_right (by decide) (by clear hn hn64; omega)))
    rw [this]
    exact dcg (yL_inj (b := 0) hn64 (by decide))
theorem add_174 {c v10 b down : Nat} {v9 v15 v16 : Int32} {up P : Nat} (hc : c < 2 ^ 64) (h9 : v9.toInt = (up : Int)) (hup : up ≤ 9) (hE : zx c - up = zx b + down) (hM : v10 = P / 2 ^ down) (h15 : decide (¬ v15.toInt = 0) = decide (P % 2 ^ down ≠ 0)) (hP : P ≠ 0) (hM0 : v10 ≠ 0) (hM2 : v10 < 2 ^ 63) (hb : P % 2 ^ down ≠ 0 → 2 ^ 53 ≤ P / 2 ^ down) :
    t_M_added_174 (lN c) v9 (lN v10) v15 v16 = lN (pk 52 1023 P (zx b) false) ||| (if v16.toInt = 0 then 0 else -9223372036854775808) := by
  unfold t_M_added_174
  have hx := zx_b c
  have e : (f_M_power (lN c) - v9).toInt = zx b + down := by rw [i_subn (d_pow hc) h9 (by clear hM2 hb hM hc; omega) (by clear hM2 hb hM hc; omega) (by clear hM2 hb hM hc; omega) (by clear hM2 hb hM hc; omega), hE]
  rw [s52 hM0 hM2 (by rw [e]; clear hM2 hb hM hc; omega), e, h15, hM, pk_flg hP hb]
theorem add_166 {c v10 b down : Nat} {v9 v15 v16 : Int32} {up P : Nat} (hc : c < 2 ^ 64) (h9 : v9.toInt = (up : Int)) (hup : up ≤ 9) (hE : zx c - up = zx b + down) (hM : v10 = P / 2 ^ down) (h15 : decide (¬ v15.toInt = 0) = decide (P % 2 ^ down ≠ 0)) (hM2 : v10 < 2 ^ 63) (hb : P % 2 ^ down ≠ 0 → 2 ^ 53 ≤ P / 2 ^ down) :
    t_M_added_166 (lN c) v9 (lN v10) v15 v16 = if P = 0 then 0 else lN (pk 52 1023 P (zx b) false) ||| (if v16.toInt = 0 then 0 else -9223372036854775808) := by
  unfold t_M_added_166
  rw [lc_ne, dcg (not_congr (show ((lN v10 = 0) ↔ v10 = 0) from yL_inj (b := 0) (lt64 hM2) (by decide))), c1_ne, h15]
  by_cases hP : P = 0
  · have h0 : v10 = 0 := by rw [hM, hP, Nat.zero_div]
    rw [cd_f (fun z => z h0), if_pos hP, cd_f (fun z => z (by rw [hP, Nat.zero_mod]))]
  · rw [if_neg hP]
    by_cases h0 : v10 = 0
    · have hz : P % 2 ^ down = 0 := by
        refine Decidable.byContradiction fun z => ?_
        have := hb z
        rw [← hM, h0] at this
        exact absurd this (by decide)
      exfalso
      refine hP ?_
      rw [← Nat.div_add_mod P (2 ^ down), hz, ← hM, h0, Nat.mul_zero]
    · rw [cd_t h0]
      exact add_174 hc h9 hup hE hM h15 hP h0 hM2 hb
/-- what the reference makes of the mantissas m (of c, up places higher) and n (down places lower, flag) -/
theorem add_137 {c b up down f : Nat} {v9 v15 v16 w0 w1 : Int32} (hc : c < 2 ^ 64) (hb : b < 2 ^ 64) (h9 : v9.toInt = (up : Int)) (hup : up ≤ 9) (hf : zx c - zx b = (f : Int)) (hfu : f = up + down) (hud : down ≠ 0 → up = 9) (h15 : decide (¬ v15.toInt = 0) = decide (zm b % 2 ^ down ≠ 0)) (h16 : v16.toInt = 0 ∨ v16.toInt = 1) :
    t_M_added_137 (lN c) v9 (lN (zm c * 2 ^ up)) (lN (zm b / 2 ^ down)) v15 v16 w0 w1 =
      if w1.toInt = w0.toInt then (if zm c * 2 ^ f + zm b = 0 then 0 else lN (pk 52 1023 (zm c * 2 ^ f + zm b) (zx b) false) ||| (if v16.toInt = 0 then 0 else -9223372036854775808))
      else if zm b ≤ zm c * 2 ^ f then (if zm c * 2 ^ f - zm b = 0 then 0 else lN (pk 52 1023 (zm c * 2 ^ f - zm b) (zx b) false) ||| (if v16.toInt = 0 then 0 else -9223372036854775808))
      else lN (pk 52 1023 (zm b - zm c * 2 ^ f) (zx b) false) ||| (if v16.toInt = 0 then -9223372036854775808 else 0) := by
  have hE : zx c - up = zx b + down := by clear hc hb h15; omega
  have hm := zm_lt c
  have hn := zm_lt b
  have hmu : zm c * 2 ^ up < 2 ^ 62 := Nat.lt_of_lt_of_le (Nat.mul_lt_mul_of_lt_of_le hm (Nat.pow_le_pow_right (by decide) hup) (by decide)) (by decide)
  have hnd : zm b / 2 ^ down < 2 ^ 53 := Nat.lt_of_le_of_lt (Nat.div_le_self _ _) hn
  have hK := pw_pos down
  have efm : zm c * 2 ^ f = zm c * 2 ^ up * 2 ^ down := by rw [hfu, pw_add, Nat.mul_assoc]
  have e63 : (2 : Nat) ^ 63 = 2 ^ 62 + 2 ^ 62 := by decide
  unfold t_M_added_137
  rw [c2_ne]
  by_cases hw : w1.toInt = w0.toInt
  · rw [cd_f (fun z => z hw), if_pos hw, yL_add]
    have hdiv : (zm c * 2 ^ f + zm b) / 2 ^ down = zm c * 2 ^ up + zm b / 2 ^ down := by rw [efm, Nat.add_comm, Nat.add_mul_div_right _ _ hK, Nat.add_comm]
    have hmod : (zm c * 2 ^ f + zm b) % 2 ^ down = zm b % 2 ^ down := by rw [efm, Nat.add_comm, Nat.add_mul_mod_self_right]
    refine add_166 hc h9 hup hE hdiv.symm (by rw [h15, hmod]) (by rw [e63]; exact Nat.add_lt_add hmu (Nat.lt_trans hnd (by decide))) (fun hz => ?_)
    rw [hdiv]
    have hd0 : down ≠ 0 := fun z => hz (by rw [z, Nat.pow_zero, Nat.mod_one])
    have h10 : 10 ≤ f := by have := hud hd0; clear hc hb h15; omega
    have := Nat.mul_le_mul_right (2 ^ up) (z_big hf h10)
    rw [hud hd0] at this ⊢
    exact Nat.le_trans (Nat.le_trans (by decide) this) (Nat.le_add_right _ _)
  · rw [cd_t hw, if_neg hw, c1_eq]
    by_cases hd0 : down = 0
    · have hz : zm b % 2 ^ down = 0 := by rw [hd0, Nat.pow_zero, Nat.mod_one]
      have h15' : v15.toInt = 0 := by
        rw [show decide (zm b % 2 ^ down ≠ 0) = false from decide_eq_false (fun z => z hz)] at h15
        exact Decidable.not_not.mp (of_decide_eq_false h15)
      have eup : zm c * 2 ^ up = zm c * 2 ^ f := by rw [hfu, hd0, Nat.add_zero]
      rw [cd_t h15', hd0, Nat.pow_zero, Nat.div_one, eup]
      rw [eup] at hmu
      generalize hm' : zm c * 2 ^ f = m at *
      unfold t_M_added_153
      rw [lc_ge, show ((0 : Int64).toInt) = 0 from rfl]
      by_cases hle : zm b ≤ m
      · rw [yL_sub hle, yL_i (Nat.lt_of_le_of_lt (Nat.sub_le _ _) (Nat.lt_trans hmu (by decide))), cd_t (Int.natCast_nonneg _), if_pos hle]
        refine add_166 (down := 0) hc h9 hup (by rw [hE, hd0]) (by rw [Nat.pow_zero, Nat.div_one]) ?_ (Nat.lt_of_le_of_lt (Nat.sub_le _ _) (Nat.lt_trans hmu (by decide))) (fun z => absurd (by rw [Nat.pow_zero, Nat.mod_one]) z)
        rw [Nat.pow_zero, Nat.mod_one, show decide (¬ v15.toInt = 0) = false from decide_eq_false (fun z => z h15')]
        rfl
      · have hlt : m < zm b := Nat.lt_of_not_le hle
        have hneg : lN m - lN (zm b) = -(lN (zm b - m)) := by rw [← yL_sub (Nat.le_of_lt hlt), Int64.neg_sub]
        have hsm : zm b - m < 2 ^ 63 := Nat.lt_of_le_of_lt (Nat.sub_le _ _) (Nat.lt_trans hn (by decide))
        have hsn : (lN m - lN (zm b)).toInt < 0 := by
          rw [hneg]
          have h1 := yL_i hsm
          have hpos : 0 < zm b - m := Nat.sub_pos_of_lt hlt
          have h2 : (-(lN (zm b - m))).toInt = -((zm b - m : Nat) : Int) := by
            rw [Int64.toInt_neg, h1]
            exact Int.bmod_eq_of_le (by clear hc hb h15 hmu hn hm hnd; omega) (by clear hc hb h15 hmu hn hm hnd; omega)
          rw [h2]
          clear hc hb h15 hmu hn hm hnd hsm h1 h2
          omega
        rw [cd_f (Int.not_le.mpr hsn), if_neg hle, hneg, Int64.neg_neg]
        have hfin : ∀ w : Int32, t_M_added_165 (lN c) v9 (lN (zm b - m)) v15 w = lN (pk 52 1023 (zm b - m) (zx b) false) ||| (if w.toInt = 0 then 0 else -9223372036854775808) := fun w => by
          unfold t_M_added_165
          rw [add_166 (down := 0) (P := zm b - m) hc h9 hup (by rw [hE, hd0]) (by rw [Nat.pow_zero, Nat.div_one]) (by
            rw [Nat.pow_zero, Nat.mod_one, show decide (¬ v15.toInt = 0) = false from decide_eq_false (fun z => z h15')]
            rfl) hsm (fun z => absurd (by rw [Nat.pow_zero, Nat.mod_one]) z), if_neg (Nat.sub_ne_zero_of_lt hlt)]
        rw [c1_ne, hfin, hfin]
        rcases h16 with h | h
        · rw [cd_f (fun z => z h), h]
          rfl
        · rw [cd_t (by rw [h]; decide), h]
          rfl
    · have u9 := hud hd0
      have h10 : 10 ≤ f := by clear hc hb h15; omega
      have hbig := Nat.mul_le_mul_right (2 ^ up) (z_big hf h10)
      rw [u9] at hbig
      have hle1 : zm b / 2 ^ down + 1 ≤ zm c * 2 ^ up := by rw [u9]; exact Nat.le_trans (Nat.succ_le_of_lt hnd) (Nat.le_trans (by decide) hbig)
      have hle : zm b ≤ zm c * 2 ^ f := by
        rw [efm]
        have := Nat.mul_le_mul_right (2 ^ down) hle1
        rw [Nat.add_mul, Nat.one_mul] at this
        have h2 := Nat.div_add_mod' (zm b) (2 ^ down)
        have h3 := Nat.mod_lt (zm b) hK
        clear hc hb h15 hmu hn hm hnd e63 hbig
        omega
      rw [if_pos hle]
      by_cases hz : zm b % 2 ^ down = 0
      · have h15' : v15.toInt = 0 := by
          rw [show decide (zm b % 2 ^ down ≠ 0) = false from decide_eq_false (fun z => z hz)] at h15
          exact Decidable.not_not.mp (of_decide_eq_false h15)
        have hle2 : zm b / 2 ^ down ≤ zm c * 2 ^ up := Nat.le_of_succ_le hle1
        have eP : zm c * 2 ^ f - zm b = (zm c * 2 ^ up - zm b / 2 ^ down) * 2 ^ down := by
          rw [efm, Nat.sub_mul]
          congr 1
          have := Nat.div_add_mod' (zm b) (2 ^ down)
          rw [hz, Nat.add_zero] at this
          exact this.symm
        rw [cd_t h15', yL_sub hle2]
        unfold t_M_added_153
        have hlt := Nat.lt_of_le_of_lt (Nat.sub_le (zm c * 2 ^ up) (zm b / 2 ^ down)) (Nat.lt_trans hmu (show 2 ^ 62 < 2 ^ 63 by decide))
        rw [lc_ge, show ((0 : Int64).toInt) = 0 from rfl, yL_i hlt, cd_t (Int.natCast_nonneg _)]
        refine add_166 hc h9 hup hE (by rw [eP, Nat.mul_div_cancel _ hK]) ?_ hlt (fun z => absurd (by rw [eP, Nat.mul_mod_left]) z)
        rw [eP, Nat.mul_mod_left, show decide (¬ v15.toInt = 0) = false from decide_eq_false (fun z => z h15')]
        rfl
      · have h15' : ¬ v15.toInt = 0 := by
          rw [show decide (zm b % 2 ^ down ≠ 0) = true from decide_eq_true hz] at h15
          exact of_decide_eq_true h15
        obtain ⟨B, hB⟩ : ∃ B, zm c * 2 ^ up = B + (zm b / 2 ^ down + 1) := ⟨zm c * 2 ^ up - (zm b / 2 ^ down + 1), (Nat.sub_add_cancel hle1).symm⟩
        have hr := Nat.mod_lt (zm b) hK
        have eP : zm c * 2 ^ f - zm b = B * 2 ^ down + (2 ^ down - zm b % 2 ^ down) := by
          have h2 := Nat.div_add_mod' (zm b) (2 ^ down)
          rw [efm, hB, Nat.add_mul, Nat.add_mul, Nat.one_mul]
          clear hc hb h15 hmu hn hm hnd e63 hbig hle hle1 hB
          omega
        have hq : (zm c * 2 ^ f - zm b) / 2 ^ down = B := by
          rw [eP, Nat.add_comm, Nat.add_mul_div_right _ _ hK, Nat.div_eq_of_lt (Nat.sub_lt hK (Nat.pos_of_ne_zero hz)), Nat.zero_add]
        have hm2 : (zm c * 2 ^ f - zm b) % 2 ^ down ≠ 0 := by
          rw [eP, Nat.add_comm, Nat.add_mul_mod_self_right, Nat.mod_eq_of_lt (Nat.sub_lt hK (Nat.pos_of_ne_zero hz))]
          exact Nat.sub_ne_zero_of_lt hr
        have eB : lN (zm c * 2 ^ up) - lN (zm b / 2 ^ down) - (1 : Int64) = lN B := by
          rw [yL_sub (Nat.le_of_succ_le hle1), show (1 : Int64) = lN 1 from rfl, yL_sub (by rw [hB]; clear hc hb h15 hmu hn hm hnd e63 hbig hle hle1 hB eP hq hm2 efm; omega)]
          congr 1
          rw [hB]
          clear hc hb h15 hmu hn hm hnd e63 hbig hle hle1 hB eP hq hm2 efm
          omega
        have hBlt : B < 2 ^ 63 := Nat.lt_of_le_of_lt (by rw [hB]; exact Nat.le_add_right _ _ : B ≤ zm c * 2 ^ up) (Nat.lt_trans hmu (by decide))
        rw [cd_f h15', eB]
        unfold t_M_added_153
        rw [lc_ge, show ((0 : Int64).toInt) = 0 from rfl, yL_i hBlt, cd_t (Int.natCast_nonneg _)]
        refine add_166 hc h9 hup hE hq.symm (by rw [show decide (¬ v15.toInt = 0) = true from decide_eq_true h15', show decide ((zm c * 2 ^ f - zm b) % 2 ^ down ≠ 0) = true from decide_eq_true hm2]) hBlt (fun _ => ?_)
        rw [hq]
        have h61 : 2 ^ 52 * 2 ^ 9 ≤ B + (zm b / 2 ^ down + 1) := by rw [← hB, u9]; exact hbig
        have e61 : 2 ^ 52 * 2 ^ 9 = 2 ^ 53 + 2 ^ 53 + (2 ^ 52 * 2 ^ 9 - 2 ^ 53 - 2 ^ 53) := by decide
        have : 2 ^ 53 + (zm b / 2 ^ down + 1) ≤ B + (zm b / 2 ^ down + 1) := Nat.le_trans (Nat.le_trans (Nat.add_le_add_left (Nat.succ_le_of_lt hnd) _) (by decide)) h61
        exact Nat.le_of_add_le_add_right this
