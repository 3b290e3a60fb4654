/-! REALS: what comes out is never another NaN -/
theorem kp_of {u : Nat} (hu : u < 2 ^ 64) (h : zs u ≤ 2047 * 2 ^ 52) : f_M_kept (lN u) = lN u := by
  unfold f_M_kept
  rw [d_no hu, cn1_eq_b2i, df (Nat.not_lt.mpr h), Bool.not_false, cond_true]
theorem kp_nan : f_M_kept (9221120237041090560 : Int64) = 9221120237041090560 := by unfold f_M_kept; cases (cn1 .eq (b2i (f_M_isNo 9221120237041090560))) <;> rfl
theorem kp_inv {u : Nat} (hu : u < 2 ^ 64) (hk : f_M_kept (lN u) = lN u) : zs u ≤ 2047 * 2 ^ 52 ∨ lN u = 9221120237041090560 := by
  unfold f_M_kept at hk
  rw [d_no hu, cn1_eq_b2i] at hk
  by_cases nu : 2047 * 2 ^ 52 < zs u
  · rw [dt nu, Bool.not_true, cond_false] at hk
    exact Or.inr hk.symm
  · exact Or.inl (Nat.le_of_not_lt nu)
theorem zs_sg {k : Nat} {b : Bool} (hk : k < 2 ^ 63) : ∃ u, u < 2 ^ 64 ∧ lN k ||| SG b = lN u ∧ zs u = k := by
  cases b
  · exact ⟨k, lt64 hk, by rw [show SG false = 0 from rfl]; exact Int64.or_zero, Nat.mod_eq_of_lt hk⟩
  · have h : k + 1 * 2 ^ 63 < 2 ^ 64 := Nat.lt_of_lt_of_le (Nat.add_lt_add_right hk _) (by decide)
    refine ⟨k + 1 * 2 ^ 63, h, ?_, ?_⟩
    · rw [show SG true = lN (1 * 2 ^ 63) from by decide]
      exact g_or' (k := 63) rfl hk h
    · unfold zs
      rw [Nat.add_mul_mod_self_right, Nat.mod_eq_of_lt hk]
theorem kp_sg {k : Nat} {b : Bool} (hk : k ≤ 2047 * 2 ^ 52) : f_M_kept (lN k ||| SG b) = lN k ||| SG b := by
  obtain ⟨u, h1, h2, h3⟩ := zs_sg (b := b) (Nat.lt_of_le_of_lt hk (by decide))
  rw [h2]
  exact kp_of h1 (by rw [h3]; exact hk)
theorem rne_le (M b : Nat) (st : Bool) : rne M b st ≤ M / 2 ^ b + 1 := by
  unfold rne
  split
  · exact Nat.le_refl _
  · exact Nat.le_succ _
theorem pk_le (M : Nat) (E : Int) (st : Bool) (h0 : M ≠ 0) : pk 52 1023 M E st ≤ 2047 * 2 ^ 52 := by
  have hb := nb_1 M
  have hl := nb_lt M
  unfold pk
  obtain ⟨F, hF⟩ : ∃ F : Int, F = E + nb M - 1 + ((1023 : Nat) : Int) := ⟨_, rfl⟩
  rw [← hF]
  by_cases h1 : (2 * ((1023 : Nat) : Int)) < F
  · rw [if_pos h1]
    exact Nat.le_refl _
  · rw [if_neg h1]
    have hT : (F - 1).toNat ≤ 2045 := by clear hl; omega
    have hQ : (F - 1).toNat * 2 ^ 52 ≤ 2045 * 2 ^ 52 := Nat.mul_le_mul_right _ hT
    have fin : ∀ x, x ≤ 2 ^ 53 → (F - 1).toNat * 2 ^ 52 + x ≤ 2047 * 2 ^ 52 := fun x hx => Nat.le_trans (Nat.add_le_add hQ hx) (by decide)
    obtain ⟨G, hG⟩ : ∃ G : Int, G = (if F < 1 then 1 - F else 0) := ⟨_, rfl⟩
    have hG0 : 0 ≤ G := by rw [hG]; clear hl hQ fin; split <;> omega
    rw [← hG]
    by_cases h2 : (nb M : Int) - (((52 : Nat) : Int) + 1) + G ≤ 0
    · rw [if_pos h2]
      refine fin _ ?_
      have : M * 2 ^ (-((nb M : Int) - (((52 : Nat) : Int) + 1) + G)).toNat ≤ 2 ^ nb M * 2 ^ (-((nb M : Int) - (((52 : Nat) : Int) + 1) + G)).toNat := Nat.mul_le_mul_right _ (Nat.le_of_lt hl)
      refine Nat.le_trans this ?_
      rw [← pw_add]
      exact Nat.pow_le_pow_right (by decide) (by clear hl hQ fin this; omega)
    · rw [if_neg h2]
      refine fin _ (Nat.le_trans (rne_le _ _ _) ?_)
      obtain ⟨b, hb'⟩ : ∃ b, b = ((nb M : Int) - (((52 : Nat) : Int) + 1) + G).toNat := ⟨_, rfl⟩
      rw [← hb']
      refine Nat.succ_le_of_lt ((Nat.div_lt_iff_lt_mul (pw_pos b)).mpr ?_)
      rw [← pw_add]
      exact Nat.lt_of_lt_of_le hl (Nat.pow_le_pow_right (by decide) (by clear hl hQ fin; omega))
theorem kp_pk {M : Nat} {E : Int} {st b : Bool} (h0 : M ≠ 0) : f_M_kept (lN (pk 52 1023 M E st) ||| SG b) = lN (pk 52 1023 M E st) ||| SG b := kp_sg (pk_le M E st h0)
theorem kp_0 {b : Bool} : f_M_kept (SG b) = SG b := by
  have := kp_sg (k := 0) (b := b) (Nat.zero_le _)
  rw [show lN 0 ||| SG b = SG b from by cases b <;> decide] at this
  exact this
theorem kp_i {b : Bool} : f_M_kept (SG b ||| 9218868437227405312) = SG b ||| 9218868437227405312 := by
  have := kp_sg (k := 2047 * 2 ^ 52) (b := b) (Nat.le_refl _)
  rw [Int64.or_comm, show lN (2047 * 2 ^ 52) = (9218868437227405312 : Int64) from by decide] at this
  exact this
/-- a property of both ends of a branch -/
theorem cdP {α : Type} {P : α → Prop} (b : Bool) {x y : α} (h1 : b = true → P x) (h2 : b = false → P y) : P (cond b x y) := by
  cases b
  · exact h2 rfl
  · exact h1 rfl
def KP (x : Int64) : Prop := f_M_kept x = x
theorem kp_sum (x y : Int64) : KP (f_Re_sum x y) := by
  obtain ⟨u, hu, rfl⟩ := d_of x
  obtain ⟨v, hv, rfl⟩ := d_of y
  unfold f_Re_sum
  rw [d_nan hu, d_nan hv, cn1_ne_b2i, cn1_eq_b2i, sn_xor hu hv]
  refine cdP _ (fun _ => kp_nan) (fun nu => cdP _ (fun nv => ?_) (fun _ => kp_nan))
  have lu := Nat.le_of_not_lt (of_decide_eq_false nu)
  have lv : zs v ≤ 2047 * 2 ^ 52 := by
    refine Nat.le_of_not_lt fun z => ?_
    rw [dt z] at nv
    exact absurd nv (by decide)
  rw [cc2 (sn u != sn v) (fun z => t_Re_sum_17 (lN u) (lN v) z), R_17 hu hv]
  generalize (cond (sn u != sn v) (0 : Int32) 1) = w
  have g : ∀ a b, a < 2 ^ 64 → b < 2 ^ 64 → zs b ≤ zs a → zs a ≤ 2047 * 2 ^ 52 → KP (t_Re_sum_37 (lN u) (lN v) w (lN a) (lN b)) := fun a b ha hb hab hla => by
    by_cases hi : zs a = 2047 * 2 ^ 52
    · rw [s37_i ha hb hi]
      split
      · exact kp_of ha hla
      · split
        · exact kp_of ha hla
        · exact kp_nan
    · rw [sum_37 ha hb hi hab]
      split
      · rw [and3, sgn_and hu, sgn_and hv]
        cases sn u <;> cases sn v <;> exact kp_0 (b := _)
      · next h => rw [sgn_and ha, Int64.or_comm]; exact kp_pk h
  by_cases h : zs u < zs v
  · rw [if_pos h]
    exact g v u hv hu (Nat.le_of_lt h) lv
  · rw [if_neg h]
    exact g u v hu hv (Nat.le_of_not_lt h) lu
