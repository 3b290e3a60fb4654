/-- the class's rounding -/
theorem rounded_pk {p B M : Nat} {e v3 v4 : Int32} (h3 : v3.toInt = (p : Int)) (h4 : v4.toInt = (B : Int)) (hp : 1 ≤ p) (hp2 : p ≤ 52) (hB : B ≤ 1023) (h2 : ((2 : Int32) * v4).toInt = 2 * (B : Int)) (h2l : (2 : Int64) * Int32.toInt64 v4 + 1 = lN (2 * B + 1)) (hM : M ≠ 0) (hM2 : M < 2 ^ 63) (he : -20000 ≤ e.toInt ∧ e.toInt ≤ 20000) : f_Re_rounded (lN M) e v3 v4 = lN (pk p B M e.toInt false) := by
  unfold f_Re_rounded
  rw [lc_ne, dcg (not_congr (show ((lN M = 0) ↔ M = 0) from yL_inj (b := 0) (lt64 hM2) (by decide))), cd_t hM]
  have hnb := nb_le hM2 hM
  clear hM2
  have hnb1 : 1 ≤ nb M := by unfold nb; omega
  have e1 := i_add (x := e) 62 (by omega) (by omega) (by decide) (by decide)
  have e2 : ((e + 62) + v4).toInt = e.toInt + 62 + B := by
    have := i_add (x := e + 62) B (by rw [show e + 62 = e + Int32.ofInt 62 from rfl]; omega) (by rw [show e + 62 = e + Int32.ofInt 62 from rfl]; omega) (by omega) (by omega)
    rw [show v4 = Int32.ofInt (B : Int) from Int32.toInt_inj.mp (by rw [h4]; exact (nt_sm (by omega)).symm)]
    rw [this, show e + 62 = e + Int32.ofInt 62 from rfl, e1]
  obtain ⟨v7, a1, a2⟩ := rnd_16 (v3 := v3) (v4 := v4) (63 - nb M) 63 M ((e + 62) + v4) 0 hM (by omega) (by omega) (by decide) (by rw [z0]; omega) (by omega) (by omega)
  rw [a2]
  have hF : v7.toInt = e.toInt + nb M - 1 + B := by omega
  generalize hE : e.toInt = E at *
  unfold t_Re_rounded_30 pk
  rw [c2_le, h2, c2_ge, show ((1 : Int32).toInt) = 1 from rfl, hF]
  generalize hFF : E + (nb M : Int) - 1 + B = F at *
  have e62 : ((62 : Int32) - v3).toInt = 62 - p := by
    have := i_add (x := 62) (-(p : Int)) (by rw [show ((62 : Int32).toInt) = 62 from rfl]; omega) (by rw [show ((62 : Int32).toInt) = 62 from rfl]; omega) (by omega) (by omega)
    rw [show (62 : Int32) - v3 = 62 + Int32.ofInt (-(p : Int)) from by
      rw [Int32.sub_eq_add_neg]
      congr 1
      rw [show v3 = Int32.ofInt (p : Int) from Int32.toInt_inj.mp (by rw [h3]; exact (nt_sm (by omega)).symm)]
      exact (Int32.ofInt_neg _).symm]
    rw [this, show ((62 : Int32).toInt) = 62 from rfl]
    omega
  have hW : LT63 (M * 2 ^ (63 - nb M)) := by
    show M * 2 ^ (63 - nb M) < 2 ^ 63
    have := nb_lt M
    calc M * 2 ^ (63 - nb M) < 2 ^ nb M * 2 ^ (63 - nb M) := (Nat.mul_lt_mul_right (pw_pos _)).mpr this
      _ = 2 ^ 63 := by rw [← pw_add]; congr 1; omega
  -- rounding W at b is rounding M at b - (63 - nb M)
  have hr : ∀ b : Nat, ∀ y : Int, (y = (b : Int) - (63 - nb M : Nat)) → rne (M * 2 ^ (63 - nb M)) b false = if y ≤ 0 then M * 2 ^ (-y).toNat else rne M y.toNat false := fun b y hy => by
    by_cases hz : y ≤ 0
    · rw [if_pos hz]
      obtain ⟨j, hj⟩ : ∃ j, 63 - nb M = j + b := ⟨63 - nb M - b, by omega⟩
      have ej : (-y).toNat = j := by omega
      rw [ej, hj, pw_add, ← Nat.mul_assoc]
      have := rne_scale (M * 2 ^ j) 0 b false
      rw [Nat.zero_add] at this
      rw [this]
      unfold rne
      simp
      omega
    · rw [if_neg hz]
      obtain ⟨c, hc⟩ : ∃ c, b = c + (63 - nb M) := ⟨b - (63 - nb M), by omega⟩
      rw [hc, rne_scale]
      congr 1
      omega
  by_cases g1 : F ≤ 2 * (B : Int)
  · rw [cd_t g1, if_neg (by omega)]
    by_cases g2 : 1 ≤ F
    · rw [cd_t g2, show (if F < 1 then 1 - F else 0) = 0 from if_neg (by omega)]
      rw [rnd_59 (p := p) (b := 62 - p) (F := F.toNat) h3 (by omega) (by rw [e62]; omega) (by omega) (by omega) (by rw [hF]; omega) (by omega) (by omega) hW]
      rw [hr (62 - p) ((nb M : Int) - (p + 1) + 0) (by omega)]
      have : (F - 1).toNat = F.toNat - 1 := by omega
      rw [this]
      by_cases g3 : (nb M : Int) - (p + 1) + 0 ≤ 0
      · rw [if_pos g3, if_pos g3]
      · rw [if_neg g3, if_neg g3]
    · rw [cd_f g2, show (if F < 1 then 1 - F else 0) = 1 - F from if_pos (by omega)]
      have hz : (F - 1).toNat = 0 := by omega
      have e1F : ((62 : Int32) - v3 + (1 - v7)).toInt = 62 - p + (1 - F) := by
        have e3 : ((1 : Int32) - v7).toInt = 1 - F := by
          have := i_add (x := 1) (-F) (by rw [show ((1 : Int32).toInt) = 1 from rfl]; omega) (by rw [show ((1 : Int32).toInt) = 1 from rfl]; omega) (by omega) (by omega)
          rw [show (1 : Int32) - v7 = 1 + Int32.ofInt (-F) from by
            rw [Int32.sub_eq_add_neg]
            congr 1
            rw [← hF, Int32.ofInt_neg, Int32.ofInt_toInt]]
          rw [this, show ((1 : Int32).toInt) = 1 from rfl]
          omega
        have := i_add (x := (62 : Int32) - v3) (1 - F) (by omega) (by omega) (by omega) (by omega)
        rw [show (1 : Int32) - v7 = Int32.ofInt (1 - F) from by rw [← e3, Int32.ofInt_toInt], this, e62]
      rw [hz]
      by_cases g4 : 62 - (p : Int) + (1 - F) ≤ 63
      · rw [rnd_59 (p := p) (b := (62 - (p : Int) + (1 - F)).toNat) (F := 1) h3 (by omega) (by rw [e1F]; omega) (by omega) (by omega) rfl (by omega) (by omega) hW]
        rw [hr _ ((nb M : Int) - (p + 1) + (1 - F)) (by omega)]
        by_cases g3 : (nb M : Int) - (p + 1) + (1 - F) ≤ 0
        · rw [if_pos g3, if_pos g3]
        · rw [if_neg g3, if_neg g3]
      · unfold t_Re_rounded_59
        rw [c2_le, e1F, show ((63 : Int32).toInt) = 63 from rfl, cd_f (by omega), if_neg (by omega)]
        have hlt : M < 2 ^ (((nb M : Int) - (p + 1) + (1 - F)).toNat - 1) := Nat.lt_of_lt_of_le (nb_lt M) (Nat.pow_le_pow_right (by decide) (by omega))
        obtain ⟨y, hy⟩ : ∃ y, ((nb M : Int) - (p + 1) + (1 - F)).toNat = y + 1 := ⟨((nb M : Int) - (p + 1) + (1 - F)).toNat - 1, by omega⟩
        rw [hy, Nat.add_sub_cancel] at hlt
        rw [hy]
        have h5 : 2 ^ (y + 1) = 2 * 2 ^ y := by rw [Nat.pow_succ]; omega
        unfold rne
        rw [h5, Nat.mod_eq_of_lt (by omega), Nat.div_eq_of_lt (by omega), if_neg (by rintro (z | ⟨z, -⟩) <;> omega)]
        rw [Nat.zero_mul]
        rfl
  · rw [cd_f g1, if_pos (by omega), h2l, yL_shl h3 (by omega)]
