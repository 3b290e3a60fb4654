/-! REALS: the class's rounded and the reference's packed are pk -/
theorem yI_i {k : Nat} (h : k < 2147483648) : (nI k).toInt = (k : Int) := nt_sm h
theorem yI_of {x : Int32} {k : Nat} (h : x.toInt = (k : Int)) (hk : k < 2147483648) : x = nI k := Int32.toInt_inj.mp (by rw [yI_i hk]; exact h)
theorem dcg {p q : Prop} [Decidable p] [Decidable q] (h : p ↔ q) : decide p = decide q := decide_eq_decide.mpr h
theorem yL_i {a : Nat} (h : a < 2 ^ 63) : (lN a).toInt = (a : Int) := pf_lI h
theorem yL_inj {a b : Nat} (ha : a < 2 ^ 64) (hb : b < 2 ^ 64) : lN a = lN b ↔ a = b := by
  constructor
  · intro h
    have := congrArg (fun z => z.toBitVec.toNat) h
    rw [show (lN a).toBitVec.toNat = a from wb_tn ha, show (lN b).toBitVec.toNat = b from wb_tn hb] at this
    exact this
  · intro h; rw [h]
theorem yL_add (a b : Nat) : lN a + lN b = lN (a + b) := (Int64.ofNat_add a b).symm
theorem yL_sub {a b : Nat} (h : b ≤ a) : lN a - lN b = lN (a - b) := by
  have h1 := yL_add (a - b) b
  rw [Nat.sub_add_cancel h] at h1
  rw [← h1]
  exact Int64.add_sub_cancel _ _
theorem yL_shl {a k : Nat} {y : Int32} (hy : y.toInt = (k : Int)) (hk : k < 64) : lN a <<< (Int32.toInt64 y &&& 63) = lN (a * 2 ^ k) := by
  rw [yI_of hy (by omega)]
  exact wb_shl a hk
theorem yL_shr {a k : Nat} {y : Int32} (hy : y.toInt = (k : Int)) (hk : k < 64) (ha : a < 2 ^ 64) : (Int64.toUInt64 (lN a) >>> (Int64.toUInt64 (Int32.toInt64 y) &&& Int64.toUInt64 63)).toInt64 = lN (a / 2 ^ k) := by
  rw [yI_of hy (by omega)]
  exact wb_shr ha hk
theorem yL_and {a k : Nat} (hk : k < 64) (ha : a < 2 ^ 64) : lN a &&& lN (2 ^ k - 1) = lN (a % 2 ^ k) := wb_mask ha hk
theorem one_shl {k : Nat} {y : Int32} (hy : y.toInt = (k : Int)) (hk : k < 64) : (1 : Int64) <<< (Int32.toInt64 y &&& 63) = lN (2 ^ k) := by
  have := yL_shl (a := 1) hy hk
  rw [Nat.one_mul] at this
  exact this
theorem msk {k : Nat} {y : Int32} (hy : y.toInt = (k : Int)) (hk : k < 64) : (1 : Int64) <<< (Int32.toInt64 y &&& 63) - (1 : Int64) = lN (2 ^ k - 1) := by
  rw [one_shl hy hk]
  exact yL_sub (pw_pos k)
theorem p63 {k : Nat} (h : k < 63) : 2 ^ k < 2 ^ 63 := wb_lt2 h
/-- the number of bits -/
theorem bits_go : ∀ (n M : Nat) (v : Int32), M < 2 ^ n → n ≤ 64 → 0 ≤ v.toInt → v.toInt + n ≤ 1000 → (t_M_bits_4 (n + 1) v (lN M)).toInt = v.toInt + (if M = 0 then 0 else nb M : Nat)
  | n, M, v, hM, hn, h1, h2 => by
    unfold t_M_bits_4
    have hM64 : M < 2 ^ 64 := Nat.lt_of_lt_of_le hM (Nat.pow_le_pow_right (by decide) hn)
    rw [lc_eq, dcg (show ((lN M = 0) ↔ M = 0) from yL_inj (b := 0) hM64 (by decide))]
    by_cases hz : M = 0
    · rw [cd_t hz, if_pos hz]
      omega
    · rw [cd_f hz, if_neg hz]
      cases n with
      | zero => rw [Nat.pow_zero] at hM; omega
      | succ n =>
        rw [show (Int64.toUInt64 (lN M) >>> (Int64.toUInt64 (Int32.toInt64 (1 : Int32)) &&& Int64.toUInt64 63)).toInt64 = lN (M / 2 ^ 1) from yL_shr (y := 1) rfl (by decide) hM64]
        have e := i_add (x := v) 1 (by omega) (by omega) (by decide) (by decide)
        have ih := bits_go n (M / 2 ^ 1) (v + Int32.ofInt 1) (by rw [Nat.pow_one]; rw [Nat.pow_succ] at hM; omega) (by omega) (by omega) (by omega)
        rw [ih, e]
        by_cases h3 : M / 2 ^ 1 = 0
        · rw [if_pos h3]
          have : M = 1 := by rw [Nat.pow_one] at h3; omega
          subst this
          have : nb 1 = 1 := nb_eq (k := 0) (by decide) (by decide)
          omega
        · rw [if_neg h3]
          have := nb_div h3
          omega
theorem bits_at {M : Nat} (h0 : M ≠ 0) (h : M < 2 ^ 64) : (f_M_bits (lN M)).toInt = (nb M : Int) := by
  unfold f_M_bits
  have := bits_go 64 M 0 h (Nat.le_refl _) (by decide) (by decide)
  rw [this, if_neg h0, z0]
  omega
theorem nb_le {M k : Nat} (h : M < 2 ^ k) (h0 : M ≠ 0) : nb M ≤ k := by
  have := (Nat.log2_lt h0).mpr h
  unfold nb
  omega
theorem i_pred {v : Int32} {b : Nat} (h : v.toInt = (b : Int)) (h1 : 1 ≤ b) (h2 : b < 100000) : (v - 1).toInt = ((b - 1 : Nat) : Int) := by
  have := i_add (x := v) (-1) (by omega) (by omega) (by decide) (by decide)
  rw [show v - 1 = v + Int32.ofInt (-1) from Int32.sub_eq_add_neg _ _]
  omega
theorem i64_of {x : Int32} {k : Nat} (h : x.toInt = (k : Int)) (hk : k < 2147483648) : Int32.toInt64 x = lN k := Int64.toInt_inj.mp (by
  rw [Int32.toInt_toInt64, h, yL_i (Nat.lt_trans hk (by decide))])
theorem pw_half {b : Nat} (h : 1 ≤ b) : 2 ^ b = 2 * 2 ^ (b - 1) := by
  obtain ⟨c, rfl⟩ : ∃ c, b = c + 1 := ⟨b - 1, by omega⟩
  rw [Nat.add_sub_cancel, Nat.pow_succ, Nat.mul_comm]
theorem lt64 {a : Nat} (h : a < 2 ^ 63) : a < 2 ^ 64 := Nat.lt_trans h (by decide)
theorem m2_lt (a : Nat) : a % 2 < 2 ^ 64 := Nat.lt_trans (Nat.mod_lt _ (by decide)) (by decide)
/-- the rule of rounding, in naturals -/
theorem rne_half {W b h : Nat} (hh : 2 ^ b = 2 * h) (st : Bool) : rne W b st = if h < W % 2 ^ b then W / 2 ^ b + 1 else if ¬ W % 2 ^ b = h then W / 2 ^ b else if st = true then W / 2 ^ b + 1 else if ¬ W / 2 ^ b % 2 = 1 then W / 2 ^ b else W / 2 ^ b + 1 := by
  unfold rne
  generalize W % 2 ^ b = r
  generalize W / 2 ^ b = q
  rw [hh]
  by_cases g1 : h < r
  · rw [if_pos (Or.inl (by omega)), if_pos g1]
  · rw [if_neg g1]
    by_cases g2 : r = h
    · rw [if_neg (by omega : ¬ ¬ r = h)]
      by_cases g3 : st = true
      · rw [if_pos (Or.inr ⟨by omega, Or.inl g3⟩), if_pos g3]
      · rw [if_neg g3]
        by_cases g4 : q % 2 = 1
        · rw [if_pos (Or.inr ⟨by omega, Or.inr g4⟩), if_neg (by omega : ¬ ¬ q % 2 = 1)]
        · rw [if_neg (by
            rintro (z | ⟨-, z | z⟩)
            · omega
            · exact g3 z
            · exact g4 z), if_pos g4]
    · rw [if_neg (by rintro (z | ⟨z, -⟩) <;> omega), if_pos g2]
theorem cd_if {α : Type} {p : Prop} [Decidable p] (x y : α) : cond (decide p) x y = if p then x else y := by
  by_cases h : p
  · rw [cd_t h, if_pos h]
  · rw [cd_f h, if_neg h]
theorem if_ap {α β : Type} {p : Prop} [Decidable p] (f : α → β) (x y : α) : (if p then f x else f y) = f (if p then x else y) := by
  by_cases h : p
  · rw [if_pos h, if_pos h]
  · rw [if_neg h, if_neg h]
/-- kept, lost and half -/
theorem rnd_59 {p : Nat} {v3 v7 v8 : Int32} {W b F : Nat} (h3 : v3.toInt = (p : Int)) (hp : p < 60) (h8 : v8.toInt = (b : Int)) (hb1 : 1 ≤ b) (hb : b < 64) (h7 : v7.toInt = (F : Int)) (hF1 : 1 ≤ F) (hF : F < 4000) (hW : W < 2 ^ 63) : t_Re_rounded_59 v3 (lN W) v7 v8 = lN ((F - 1) * 2 ^ p + rne W b false) := by
  have e8 := i_pred h8 hb1 (Nat.lt_trans hb (by decide))
  have e7 := i64_of (i_pred h7 hF1 (Nat.lt_trans hF (by decide))) (Nat.lt_of_le_of_lt (Nat.sub_le _ _) (Nat.lt_trans hF (by decide)))
  have hW64 := lt64 hW
  have hb63 : 2 ^ b ≤ 2 ^ 63 := Nat.pow_le_pow_right (by decide) (by clear hW hW64; omega)
  have hl : W % 2 ^ b < 2 ^ 63 := Nat.lt_of_lt_of_le (Nat.mod_lt _ (pw_pos b)) hb63
  have hb62 : 2 ^ (b - 1) < 2 ^ 63 := p63 (by clear hW hW64 hl hb63; omega)
  have hd : W / 2 ^ b < 2 ^ 64 := Nat.lt_of_le_of_lt (Nat.div_le_self _ _) hW64
  have hodd : (lN (W / 2 ^ b) &&& (1 : Int64)) = lN (W / 2 ^ b % 2) := wb_a1 hd
  have r100 : ∀ x, t_Re_rounded_100 v3 v7 (lN x) = lN ((F - 1) * 2 ^ p + x) := fun x => by
    unfold t_Re_rounded_100
    rw [e7, yL_shl h3 (Nat.lt_trans hp (by decide)), yL_add]
  have r96 : ∀ x, t_Re_rounded_96 v3 v7 (lN x) = lN ((F - 1) * 2 ^ p + (x + 1)) := fun x => by
    unfold t_Re_rounded_96
    rw [show lN x + (1 : Int64) = lN (x + 1) from yL_add x 1]
    exact r100 _
  unfold t_Re_rounded_59
  rw [c2_le, h8, show ((63 : Int32).toInt) = 63 from rfl, cd_t (by clear hW hW64 hl hb63 hb62 hd hodd r100 r96; omega)]
  rw [msk h8 hb, one_shl e8 (Nat.lt_of_le_of_lt (Nat.sub_le _ _) hb), yL_and hb hW64, yL_shr h8 hb hW64]
  rw [lc_gt, lc_ne, yL_i (a := W % 2 ^ b) hl, yL_i (a := 2 ^ (b - 1)) hb62, lc_ne, hodd, r100, r96]
  rw [dcg (show ((((2 ^ (b - 1) : Nat) : Int) < ((W % 2 ^ b : Nat) : Int)) ↔ 2 ^ (b - 1) < W % 2 ^ b) from Int.ofNat_lt), dcg (not_congr (yL_inj (lt64 hl) (lt64 hb62))), dcg (not_congr (show ((lN (W / 2 ^ b % 2) = 1) ↔ W / 2 ^ b % 2 = 1) from yL_inj (b := 1) (m2_lt _) (by decide)))]
  rw [rne_half (pw_half hb1)]
  simp only [cd_if, if_neg (show ¬ (false = true) by decide)]
  simp only [if_ap (fun x => lN ((F - 1) * 2 ^ p + x))]
theorem ge62 {W : Nat} (h : nb W = 63) (h0 : W ≠ 0) : 2 ^ 62 ≤ W ∧ W < 2 ^ 63 := by
  have h1 := nb_ge h0
  have h2 := nb_lt W
  rw [h] at h1 h2
  exact ⟨h1, h2⟩
theorem lt62 {W k : Nat} (h : nb W + (k + 1) = 63) : W < 2 ^ 62 := Nat.lt_of_lt_of_le (nb_lt W) (Nat.pow_le_pow_right (by decide) (by omega))
theorem top_t {W : Nat} (h : 2 ^ 62 ≤ W) (h2 : W < 2 ^ 63) : cn1 .ge (lg_cmp (lN W) (4611686018427387904 : Int64)) = true := by
  rw [lc_ge, yL_i h2, show (4611686018427387904 : Int64) = lN (2 ^ 62) from by decide, yL_i (by decide)]
  exact decide_eq_true (Int.ofNat_le.mpr h)
theorem top_f {W : Nat} (h : W < 2 ^ 62) : cn1 .ge (lg_cmp (lN W) (4611686018427387904 : Int64)) = false := by
  rw [lc_ge, yL_i (Nat.lt_trans h (by decide)), show (4611686018427387904 : Int64) = lN (2 ^ 62) from by decide, yL_i (by decide)]
  exact decide_eq_false (fun z => Nat.not_le.mpr h (Int.ofNat_le.mp z))
theorem rnd_16 {v3 v4 : Int32} : ∀ (k n W : Nat) (v7 v8 : Int32), W ≠ 0 → nb W + k = 63 → k < n → 0 ≤ v8.toInt → v8.toInt + k ≤ 62 → -100000 + (k : Int) ≤ v7.toInt → v7.toInt ≤ 100000 → ∃ v7', v7'.toInt = v7.toInt - k ∧ t_Re_rounded_16 n v3 v4 (lN W) v7 v8 = t_Re_rounded_30 v3 v4 (lN (W * 2 ^ k)) v7'
  | 0, n + 1, W, v7, v8, h0, hn, _, h8, h8', h7, h7' => by
    refine ⟨v7, by omega, ?_⟩
    unfold t_Re_rounded_16
    obtain ⟨h1, h2⟩ := ge62 hn h0
    rw [top_t h1 h2, Nat.pow_zero, Nat.mul_one]
    cases cn2 .ge v8 62 <;> rfl
  | k + 1, n + 1, W, v7, v8, h0, hn, hk, h8, h8', h7, h7' => by
    have e7 := i_add (x := v7) (-1) (by omega) (by omega) (by decide) (by decide)
    have e8 := i_add (x := v8) 1 (by omega) (by omega) (by decide) (by decide)
    have hm := nb_mul h0 1
    have hz : W * 2 ^ 1 ≠ 0 := by rw [Nat.pow_one]; omega
    obtain ⟨v', a1, a2⟩ := rnd_16 (v3 := v3) (v4 := v4) k n (W * 2 ^ 1) (v7 + Int32.ofInt (-1)) (v8 + Int32.ofInt 1) hz (by omega) (by omega) (by omega) (by omega) (by omega) (by omega)
    refine ⟨v', by omega, ?_⟩
    unfold t_Re_rounded_16
    rw [c2_ge, show ((62 : Int32).toInt) = 62 from rfl, cd_f (by omega), top_f (lt62 hn), show lN W <<< (Int32.toInt64 (1 : Int32) &&& 63) = lN (W * 2 ^ 1) from yL_shl (y := 1) rfl (by decide)]
    show t_Re_rounded_16 n v3 v4 (lN (W * 2 ^ 1)) (v7 + Int32.ofInt (-1)) (v8 + Int32.ofInt 1) = _
    rw [a2, Nat.mul_assoc, ← pw_add, Nat.add_comm 1 k]
def LT63 (n : Nat) : Prop := n < 2 ^ 63
