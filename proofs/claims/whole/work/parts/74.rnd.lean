/-! REALS: the class's rounded and the reference's packed are pk -/
theorem nI_i {k : Nat} (h : k < 2147483648) : (nI k).toInt = (k : Int) := nt_sm h
theorem nI_of {x : Int32} {k : Nat} (h : x.toInt = (k : Int)) (hk : k < 2147483648) : x = nI k := Int32.toInt_inj.mp (by rw [nI_i hk]; exact h)
theorem lN_i {a : Nat} (h : a < 2 ^ 63) : (lN a).toInt = (a : Int) := pf_lI h
theorem lN_inj0 {a b : Nat} (ha : a < 2 ^ 64) (hb : b < 2 ^ 64) : lN a = lN b ↔ a = b := by
  constructor
  · intro h
    have := congrArg (fun z => z.toBitVec.toNat) h
    rw [show (lN a).toBitVec.toNat = a from wb_tn ha, show (lN b).toBitVec.toNat = b from wb_tn hb] at this
    exact this
  · intro h; rw [h]
theorem lN_add (a b : Nat) : lN a + lN b = lN (a + b) := (Int64.ofNat_add a b).symm
theorem lN_sub {a b : Nat} (h : b ≤ a) : lN a - lN b = lN (a - b) := by
  have h1 := lN_add (a - b) b
  rw [Nat.sub_add_cancel h] at h1
  rw [← h1]
  exact Int64.add_sub_cancel _ _
theorem lN_shl {a k : Nat} {y : Int32} (hy : y.toInt = (k : Int)) (hk : k < 64) : lN a <<< (Int32.toInt64 y &&& 63) = lN (a * 2 ^ k) := by
  rw [nI_of hy (by omega)]
  exact wb_shl a hk
theorem lN_shr {a k : Nat} {y : Int32} (hy : y.toInt = (k : Int)) (hk : k < 64) (ha : a < 2 ^ 64) : (Int64.toUInt64 (lN a) >>> (Int64.toUInt64 (Int32.toInt64 y) &&& Int64.toUInt64 63)).toInt64 = lN (a / 2 ^ k) := by
  rw [nI_of hy (by omega)]
  exact wb_shr ha hk
theorem lN_and {a k : Nat} (hk : k < 64) (ha : a < 2 ^ 64) : lN a &&& lN (2 ^ k - 1) = lN (a % 2 ^ k) := wb_mask ha hk
theorem one_shl {k : Nat} {y : Int32} (hy : y.toInt = (k : Int)) (hk : k < 64) : (1 : Int64) <<< (Int32.toInt64 y &&& 63) = lN (2 ^ k) := by
  have := lN_shl (a := 1) hy hk
  rw [Nat.one_mul] at this
  exact this
theorem msk {k : Nat} {y : Int32} (hy : y.toInt = (k : Int)) (hk : k < 64) : (1 : Int64) <<< (Int32.toInt64 y &&& 63) - (1 : Int64) = lN (2 ^ k - 1) := by
  rw [one_shl hy hk]
  exact lN_sub (pw_pos k)
theorem p63 {k : Nat} (h : k < 63) : 2 ^ k < 2 ^ 63 := wb_lt2 h
/-- the number of bits -/
theorem bits_go : ∀ (n M : Nat) (v : Int32), M < 2 ^ n → n ≤ 64 → 0 ≤ v.toInt → v.toInt + n ≤ 1000 → (t_M_bits_4 (n + 1) v (lN M)).toInt = v.toInt + (if M = 0 then 0 else nb M : Nat)
  | n, M, v, hM, hn, h1, h2 => by
    unfold t_M_bits_4
    have hM64 : M < 2 ^ 64 := Nat.lt_of_lt_of_le hM (Nat.pow_le_pow_right (by decide) hn)
    rw [lc_eq, show ((lN M = 0) ↔ M = 0) from lN_inj0 (b := 0) hM64 (by decide) |> fun h => h]
    by_cases hz : M = 0
    · rw [cd_t hz, if_pos hz]
      omega
    · rw [cd_f hz, if_neg hz]
      cases n with
      | zero => rw [Nat.pow_zero] at hM; omega
      | succ n =>
        rw [show (Int64.toUInt64 (lN M) >>> (Int64.toUInt64 (Int32.toInt64 (1 : Int32)) &&& Int64.toUInt64 63)).toInt64 = lN (M / 2 ^ 1) from lN_shr (y := 1) rfl (by decide) hM64]
        have e := i_add (x := v) 1 (by omega) (by omega) (by decide) (by decide)
        have ih := bits_go n (M / 2 ^ 1) (v + Int32.ofInt 1) (by rw [Nat.pow_one]; rw [Nat.pow_succ] at hM; omega) (by omega) (by omega) (by omega)
        rw [ih, e]
        by_cases h3 : M / 2 ^ 1 = 0
        · rw [if_pos h3]
          have : M = 1 := by rw [Nat.pow_one] at h3; omega
          subst this
          have : nb 1 = 1 := nb_eq (k := 0) (by decide) (by decide)
          omega
        · rw [if_neg h3]
          have := nb_div h3
          omega
theorem bits_at {M : Nat} (h0 : M ≠ 0) (h : M < 2 ^ 64) : (f_M_bits (lN M)).toInt = (nb M : Int) := by
  unfold f_M_bits
  have := bits_go 64 M 0 h (Nat.le_refl _) (by decide) (by decide)
  rw [this, if_neg h0, z0]
  omega
theorem nb_le {M k : Nat} (h : M < 2 ^ k) (h0 : M ≠ 0) : nb M ≤ k := by
  have := (Nat.log2_lt h0).mpr h
  unfold nb
  omega
/-- kept, lost and half -/
theorem rnd_59 {p : Nat} {v3 v7 v8 : Int32} {W b F : Nat} (h3 : v3.toInt = (p : Int)) (hp : p < 60) (h8 : v8.toInt = (b : Int)) (hb1 : 1 ≤ b) (hb : b ≤ 63) (h7 : v7.toInt = (F : Int)) (hF1 : 1 ≤ F) (hF : F < 4000) (hW : W < 2 ^ 63) (hk : W / 2 ^ b < 2 ^ 62) : t_Re_rounded_59 v3 (lN W) v7 v8 = lN ((F - 1) * 2 ^ p + rne W b false) := by
  unfold t_Re_rounded_59
  have e8 : (v8 - 1).toInt = ((b - 1 : Nat) : Int) := by
    have := i_add (x := v8) (-1) (by omega) (by omega) (by decide) (by decide)
    rw [show v8 - 1 = v8 + Int32.ofInt (-1) from Int32.sub_eq_add_neg _ _]
    omega
  have e7 : Int32.toInt64 (v7 - 1) = lN (F - 1) := by
    have := i_add (x := v7) (-1) (by omega) (by omega) (by decide) (by decide)
    have h9 : (v7 - 1).toInt = ((F - 1 : Nat) : Int) := by
      rw [show v7 - 1 = v7 + Int32.ofInt (-1) from Int32.sub_eq_add_neg _ _]
      omega
    apply Int64.toInt_inj.mp
    rw [Int32.toInt_toInt64, h9, lN_i (by omega)]
  have hW64 : W < 2 ^ 64 := by omega
  rw [c2_le, h8, show ((63 : Int32).toInt) = 63 from rfl, cd_t (by omega)]
  rw [msk h8 (by omega), one_shl e8 (by omega), lN_and (by omega) hW64, lN_shr h8 (by omega) hW64]
  have hl : W % 2 ^ b < 2 ^ b := Nat.mod_lt _ (pw_pos b)
  have hb63 : 2 ^ b ≤ 2 ^ 63 := Nat.pow_le_pow_right (by decide) hb
  have hh : 2 ^ b = 2 * 2 ^ (b - 1) := by
    obtain ⟨c, rfl⟩ : ∃ c, b = c + 1 := ⟨b - 1, by omega⟩
    rw [Nat.add_sub_cancel, Nat.pow_succ]
    omega
  have hb62 : 2 ^ (b - 1) < 2 ^ 63 := p63 (by omega)
  rw [lc_gt, lc_ne, lN_i (by omega), lN_i hb62]
  have hodd : (lN (W / 2 ^ b) &&& (1 : Int64)) = lN (W / 2 ^ b % 2) := wb_a1 (by omega)
  have r100 : ∀ x, x ≤ 2 ^ 62 → t_Re_rounded_100 v3 v7 (lN x) = lN ((F - 1) * 2 ^ p + x) := fun x hx => by
    unfold t_Re_rounded_100
    rw [e7, lN_shl h3 (by omega), lN_add]
  have r96 : ∀ x, x < 2 ^ 62 → t_Re_rounded_96 v3 v7 (lN x) = lN ((F - 1) * 2 ^ p + (x + 1)) := fun x hx => by
    unfold t_Re_rounded_96
    rw [show lN x + (1 : Int64) = lN (x + 1) from lN_add x 1]
    exact r100 _ (by omega)
  unfold rne
  rw [lN_inj0 (by omega) (by omega), lc_ne, hodd, show ((lN (W / 2 ^ b % 2) = 1) ↔ W / 2 ^ b % 2 = 1) from lN_inj0 (b := 1) (by omega) (by decide)]
  by_cases g1 : ((2 ^ (b - 1) : Nat) : Int) < ((W % 2 ^ b : Nat) : Int)
  · rw [cd_t g1, if_pos (Or.inl (by omega)), r96 _ hk]
  · rw [cd_f g1]
    by_cases g2 : W % 2 ^ b = 2 ^ (b - 1)
    · rw [cd_f (by omega)]
      by_cases g3 : W / 2 ^ b % 2 = 1
      · rw [cd_f (by omega), if_pos (Or.inr ⟨by omega, Or.inr g3⟩), r96 _ hk]
      · rw [cd_t g3, if_neg (by rintro (z | ⟨-, z | z⟩); · omega; · cases z; · exact g3 z), r100 _ (by omega)]
    · rw [cd_t g2, if_neg (by rintro (z | ⟨z, -⟩) <;> omega), r100 _ (by omega)]
theorem rnd_16 {v3 v4 : Int32} : ∀ (k n W : Nat) (v7 v8 : Int32), W ≠ 0 → nb W + k = 63 → k < n → 0 ≤ v8.toInt → v8.toInt + k ≤ 62 → -100000 ≤ v7.toInt → v7.toInt ≤ 100000 → ∃ v7', v7'.toInt = v7.toInt - k ∧ t_Re_rounded_16 n v3 v4 (lN W) v7 v8 = t_Re_rounded_30 v3 v4 (lN (W * 2 ^ k)) v7'
  | 0, n + 1, W, v7, v8, h0, hn, _, h8, h8', h7, h7' => by
    refine ⟨v7, by omega, ?_⟩
    unfold t_Re_rounded_16
    have h1 := nb_ge h0
    have h2 := nb_lt W
    rw [show nb W = 63 by omega] at h1 h2
    rw [lc_ge, lN_i h2, show ((4611686018427387904 : Int64).toInt) = 4611686018427387904 by decide, cd_t (show (4611686018427387904 : Int) ≤ (W : Int) by have : 2 ^ (63 - 1) = 4611686018427387904 := by decide
                                                                                                                                                omega), Nat.pow_zero, Nat.mul_one]
    cases cn2 .ge v8 62 <;> rfl
  | k + 1, n + 1, W, v7, v8, h0, hn, hk, h8, h8', h7, h7' => by
    unfold t_Re_rounded_16
    have h2 := nb_lt W
    have h3 : W < 2 ^ 62 := Nat.lt_of_lt_of_le h2 (Nat.pow_le_pow_right (by decide) (by omega))
    have e62 : 2 ^ 62 = 4611686018427387904 := by decide
    rw [c2_ge, show ((62 : Int32).toInt) = 62 from rfl, cd_f (by omega), lc_ge, lN_i (by omega), show ((4611686018427387904 : Int64).toInt) = 4611686018427387904 by decide, cd_f (by omega)]
    rw [show lN W <<< (Int32.toInt64 (1 : Int32) &&& 63) = lN (W * 2 ^ 1) from lN_shl (y := 1) rfl (by decide)]
    have e7 := i_add (x := v7) (-1) (by omega) (by omega) (by decide) (by decide)
    have e8 := i_add (x := v8) 1 (by omega) (by omega) (by decide) (by decide)
    have hm := nb_mul h0 1
    obtain ⟨v', a1, a2⟩ := rnd_16 k n (W * 2 ^ 1) (v7 + Int32.ofInt (-1)) (v8 + Int32.ofInt 1) (by rw [Nat.pow_one]; omega) (by omega) (by omega) (by omega) (by omega) (by omega) (by omega)
    refine ⟨v', by omega, ?_⟩
    rw [a2, Nat.mul_assoc, ← pw_add, Nat.add_comm 1 k]
/-- the class's rounding -/
theorem rounded_pk {p B M : Nat} {e v3 v4 : Int32} (h3 : v3.toInt = (p : Int)) (h4 : v4.toInt = (B : Int)) (hp : 1 ≤ p) (hp2 : p ≤ 52) (hB : B ≤ 1023) (h2 : ((2 : Int32) * v4).toInt = 2 * (B : Int)) (h2l : (2 : Int64) * Int32.toInt64 v4 + 1 = lN (2 * B + 1)) (hM : M ≠ 0) (hM2 : M < 2 ^ 63) (he : -20000 ≤ e.toInt ∧ e.toInt ≤ 20000) : f_Re_rounded (lN M) e v3 v4 = lN (pk p B M e.toInt false) := by
  unfold f_Re_rounded
  rw [lc_ne, show ((lN M = 0) ↔ M = 0) from lN_inj0 (b := 0) (by omega) (by decide), cd_t hM]
  have hnb := nb_le hM2 hM
  have hnb1 : 1 ≤ nb M := by unfold nb; omega
  have e1 := i_add (x := e) 62 (by omega) (by omega) (by decide) (by decide)
  have e2 : ((e + 62) + v4).toInt = e.toInt + 62 + B := by
    have := i_add (x := e + 62) B (by rw [show e + 62 = e + Int32.ofInt 62 from rfl]; omega) (by rw [show e + 62 = e + Int32.ofInt 62 from rfl]; omega) (by omega) (by omega)
    rw [show v4 = Int32.ofInt (B : Int) from Int32.toInt_inj.mp (by rw [h4]; exact (nt_sm (by omega)).symm)]
    rw [this, show e + 62 = e + Int32.ofInt 62 from rfl, e1]
  obtain ⟨v7, a1, a2⟩ := rnd_16 (v3 := v3) (v4 := v4) (63 - nb M) 63 M ((e + 62) + v4) 0 hM (by omega) (by omega) (by decide) (by rw [z0]; omega) (by omega) (by omega)
  rw [a2]
  have hF : v7.toInt = e.toInt + nb M - 1 + B := by omega
  generalize hE : e.toInt = E at *
  unfold t_Re_rounded_30 pk
  rw [c2_le, h2, c2_ge, show ((1 : Int32).toInt) = 1 from rfl, hF]
  generalize hFF : E + (nb M : Int) - 1 + B = F at *
  have e62 : ((62 : Int32) - v3).toInt = 62 - p := by
    have := i_add (x := 62) (-(p : Int)) (by rw [show ((62 : Int32).toInt) = 62 from rfl]; omega) (by rw [show ((62 : Int32).toInt) = 62 from rfl]; omega) (by omega) (by omega)
    rw [show (62 : Int32) - v3 = 62 + Int32.ofInt (-(p : Int)) from by
      rw [Int32.sub_eq_add_neg]
      congr 1
      rw [show v3 = Int32.ofInt (p : Int) from Int32.toInt_inj.mp (by rw [h3]; exact (nt_sm (by omega)).symm)]
      exact (Int32.ofInt_neg _).symm]
    rw [this, show ((62 : Int32).toInt) = 62 from rfl]
    omega
  have hW : M * 2 ^ (63 - nb M) < 2 ^ 63 := by
    have := nb_lt M
    calc M * 2 ^ (63 - nb M) < 2 ^ nb M * 2 ^ (63 - nb M) := (Nat.mul_lt_mul_right (pw_pos _)).mpr this
      _ = 2 ^ 63 := by rw [← pw_add]; congr 1; omega
  have hWb : ∀ b, 1 ≤ b → M * 2 ^ (63 - nb M) / 2 ^ b < 2 ^ 62 := fun b hb => by
    rw [Nat.div_lt_iff_lt_mul (pw_pos b)]
    have : 2 ^ 1 ≤ 2 ^ b := Nat.pow_le_pow_right (by decide) hb
    calc M * 2 ^ (63 - nb M) < 2 ^ 62 * 2 ^ 1 := hW
      _ ≤ 2 ^ 62 * 2 ^ b := Nat.mul_le_mul_left _ this
  -- rounding W at b is rounding M at b - (63 - nb M)
  have hr : ∀ b : Nat, ∀ y : Int, (y = (b : Int) - (63 - nb M : Nat)) → rne (M * 2 ^ (63 - nb M)) b false = if y ≤ 0 then M * 2 ^ (-y).toNat else rne M y.toNat false := fun b y hy => by
    by_cases hz : y ≤ 0
    · rw [if_pos hz]
      obtain ⟨j, hj⟩ : ∃ j, 63 - nb M = j + b := ⟨63 - nb M - b, by omega⟩
      have ej : (-y).toNat = j := by omega
      rw [ej, hj, pw_add, ← Nat.mul_assoc]
      have := rne_scale (M * 2 ^ j) 0 b false
      rw [Nat.zero_add] at this
      rw [this]
      unfold rne
      simp
      omega
    · rw [if_neg hz]
      obtain ⟨c, hc⟩ : ∃ c, b = c + (63 - nb M) := ⟨b - (63 - nb M), by omega⟩
      rw [hc, rne_scale]
      congr 1
      omega
  by_cases g1 : F ≤ 2 * (B : Int)
  · rw [cd_t g1, if_neg (by omega)]
    by_cases g2 : 1 ≤ F
    · rw [cd_t g2, if_neg (by omega)]
      rw [rnd_59 (p := p) (b := 62 - p) (F := F.toNat) h3 (by omega) (by rw [e62]; omega) (by omega) (by omega) (by rw [hF]; omega) (by omega) (by omega) hW (hWb _ (by omega))]
      rw [hr (62 - p) ((nb M : Int) - (p + 1) + 0) (by omega)]
      have : (F - 1).toNat = F.toNat - 1 := by omega
      rw [this]
      by_cases g3 : (nb M : Int) - (p + 1) + 0 ≤ 0
      · rw [if_pos g3, if_pos g3]
      · rw [if_neg g3, if_neg g3]
    · rw [cd_f g2, if_pos (by omega)]
      have hz : (F - 1).toNat = 0 := by omega
      have e1F : ((62 : Int32) - v3 + (1 - v7)).toInt = 62 - p + (1 - F) := by
        have e3 : ((1 : Int32) - v7).toInt = 1 - F := by
          have := i_add (x := 1) (-F) (by rw [show ((1 : Int32).toInt) = 1 from rfl]; omega) (by rw [show ((1 : Int32).toInt) = 1 from rfl]; omega) (by omega) (by omega)
          rw [show (1 : Int32) - v7 = 1 + Int32.ofInt (-F) from by
            rw [Int32.sub_eq_add_neg]
            congr 1
            rw [← hF, Int32.ofInt_neg, Int32.ofInt_toInt]]
          rw [this, show ((1 : Int32).toInt) = 1 from rfl]
          omega
        have := i_add (x := (62 : Int32) - v3) (1 - F) (by omega) (by omega) (by omega) (by omega)
        rw [show (1 : Int32) - v7 = Int32.ofInt (1 - F) from by rw [← e3, Int32.ofInt_toInt], this, e62]
      rw [hz]
      by_cases g4 : 62 - (p : Int) + (1 - F) ≤ 63
      · rw [rnd_59 (p := p) (b := (62 - (p : Int) + (1 - F)).toNat) (F := 1) h3 (by omega) (by rw [e1F]; omega) (by omega) (by omega) rfl (by omega) (by omega) hW (hWb _ (by omega))]
        rw [hr _ ((nb M : Int) - (p + 1) + (1 - F)) (by omega)]
        by_cases g3 : (nb M : Int) - (p + 1) + (1 - F) ≤ 0
        · rw [if_pos g3, if_pos g3]
        · rw [if_neg g3, if_neg g3]
      · unfold t_Re_rounded_59
        rw [c2_le, e1F, show ((63 : Int32).toInt) = 63 from rfl, cd_f (by omega), if_neg (by omega)]
        have hlt : M < 2 ^ (((nb M : Int) - (p + 1) + (1 - F)).toNat - 1) := Nat.lt_of_lt_of_le (nb_lt M) (Nat.pow_le_pow_right (by decide) (by omega))
        obtain ⟨y, hy⟩ : ∃ y, ((nb M : Int) - (p + 1) + (1 - F)).toNat = y + 1 := ⟨((nb M : Int) - (p + 1) + (1 - F)).toNat - 1, by omega⟩
        rw [hy, Nat.add_sub_cancel] at hlt
        rw [hy]
        have h5 : 2 ^ (y + 1) = 2 * 2 ^ y := by rw [Nat.pow_succ]; omega
        unfold rne
        rw [h5, Nat.mod_eq_of_lt (by omega), Nat.div_eq_of_lt (by omega), if_neg (by rintro (z | ⟨z, -⟩) <;> omega)]
        rfl
  · rw [cd_f g1, if_pos (by omega), h2l, lN_shl h3 (by omega)]
