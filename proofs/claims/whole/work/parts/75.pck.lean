/-! REALS: the reference's packing -/
theorem i_subn {x y : Int32} {a b : Int} (hx : x.toInt = a) (hy : y.toInt = b) (h1 : -2147483648 ≤ a - b) (h2 : a - b ≤ 2147483647) (h3 : -2147483647 ≤ b) (h4 : b ≤ 2147483647) : (x - y).toInt = a - b := by
  have := i_add (x := x) (-b) (by omega) (by omega) (by omega) (by omega)
  rw [show x - y = x + Int32.ofInt (-b) from by
    rw [Int32.sub_eq_add_neg]
    congr 1
    rw [← hy, Int32.ofInt_neg, Int32.ofInt_toInt]]
  rw [this, hx]
  omega
theorem i_addy {x y : Int32} {a b : Int} (hx : x.toInt = a) (hy : y.toInt = b) (h1 : -2147483648 ≤ a + b) (h2 : a + b ≤ 2147483647) : (x + y).toInt = a + b := by
  have hb1 := Int32.minValue_le_toInt y
  have hb2 := Int32.toInt_le y
  have := i_add (x := x) b (by omega) (by omega) (by rw [← hy]; exact hb1) (by rw [← hy]; exact hb2)
  rw [show x + y = x + Int32.ofInt b from by rw [← hy, Int32.ofInt_toInt], this, hx]
theorem i_negy {x : Int32} {a : Int} (hx : x.toInt = a) (h : -2147483647 ≤ a) : (-x).toInt = -a := by
  have h9 := Int32.toInt_le x
  have := i_subn (x := 0) (y := x) z0 hx (by omega) (by omega) h (by omega)
  rw [show (0 : Int32) - x = -x from Int32.zero_sub x] at this
  rw [this]
  omega
theorem lN_mul (a b : Nat) : lN a * lN b = lN (a * b) := (Int64.ofNat_mul a b).symm
theorem i64_of {x : Int32} {k : Nat} (h : x.toInt = (k : Int)) (hk : k < 2147483648) : Int32.toInt64 x = lN k := Int64.toInt_inj.mp (by rw [Int32.toInt_toInt64, h, lN_i (by omega)])
/-- the end of packed: q places at y -/
theorem pck_82 {p B q : Nat} {v2 v4 v5 v6 : Int32} {y : Int} (h4 : v4.toInt = (p : Int) + 1) (h5 : v5.toInt = 1 - (B : Int) - p) (hpb : (p = 52 ∧ B = 1023) ∨ (p = 23 ∧ B = 127)) (hy : (v2 + v6).toInt = y) (hy1 : 1 - (B : Int) - p ≤ y) (hy2 : y ≤ 100000) (hq : q ≤ 2 ^ (p + 1)) (hlow : q < 2 ^ p → y = 1 - (B : Int) - p) :
    t_M_packed_82 v2 v4 v5 v6 (lN q) = lN (if (2 * B : Int) < y + B + p ∧ 2 ^ p ≤ q then (2 * B + 1) * 2 ^ p else (y + B + p - 1).toNat * 2 ^ p + q) := by
  have hp : p ≤ 52 := by omega
  have hB : B ≤ 1023 := by omega
  have e4 : (v4 - 1).toInt = (p : Int) := by
    rw [i_subn h4 (show ((1 : Int32).toInt) = 1 from rfl) (by omega) (by omega) (by omega) (by omega)]
    omega
  have hpp : 2 ^ (p + 1) = 2 * 2 ^ p := by rw [Nat.pow_succ]; omega
  have hp52 : 2 ^ p ≤ 2 ^ 52 := Nat.pow_le_pow_right (by decide) hp
  have c52 : 2 ^ 52 = 4503599627370496 := by decide
  have etop : (1 : Int64) <<< (Int32.toInt64 (v4 - 1) &&& 63) = lN (2 ^ p) := one_shl e4 (by omega)
  have etop2 : lN (2 ^ p) <<< (Int32.toInt64 (1 : Int32) &&& 63) = lN (2 ^ (p + 1)) := by
    rw [show lN (2 ^ p) <<< (Int32.toInt64 (1 : Int32) &&& 63) = lN (2 ^ p * 2 ^ 1) from lN_shl (y := 1) rfl (by decide), ← pw_add]
  have key : ∀ (q1 : Nat) (v9 : Int32) (y1 : Int), v9.toInt = y1 → 1 - (B : Int) - p ≤ y1 → y1 ≤ 100001 → q1 < 2 ^ (p + 1) → (q1 < 2 ^ p → y1 = 1 - (B : Int) - p) →
      t_M_packed_101 v4 v5 (lN q1) v9 (lN (2 ^ p)) = lN (if (2 * B : Int) < y1 + B + p ∧ 2 ^ p ≤ q1 then (2 * B + 1) * 2 ^ p else (y1 + B + p - 1).toNat * 2 ^ p + q1) := by
    intro q1 v9 y1 h9 hy1 hy2 hq1 hl1
    have e9 : (v9 - v5).toInt = y1 + B + p - 1 := by
      rw [i_subn h9 h5 (by omega) (by omega) (by omega) (by omega)]
      omega
    have e10 : Int32.toInt64 (v9 - v5) + (1 : Int64) = lN (y1 + B + p).toNat := by
      rw [i64_of (k := (y1 + B + p - 1).toNat) (by rw [e9]; omega) (by omega), show (1 : Int64) = lN 1 from rfl, lN_add]
      congr 1
      omega
    have go : ∀ w0 : Int64, w0 = lN (2 * B + 1) → t_M_packed_107 v4 v5 (lN q1) v9 (lN (2 ^ p)) w0 = lN (if (2 * B : Int) < y1 + B + p ∧ 2 ^ p ≤ q1 then (2 * B + 1) * 2 ^ p else (y1 + B + p - 1).toNat * 2 ^ p + q1) := by
      intro w0 hw
      subst hw
      unfold t_M_packed_107
      rw [e10, lc_ge, lc_lt, lN_i (by omega), lN_i (by omega), lN_i (by omega), lN_i (by omega)]
      by_cases g1 : ((2 ^ p : Nat) : Int) ≤ (q1 : Int)
      · rw [cd_t g1]
        have g1' : 2 ^ p ≤ q1 := by omega
        by_cases g2 : (((y1 + B + p).toNat : Nat) : Int) < ((2 * B + 1 : Nat) : Int)
        · rw [cd_t g2, if_neg (by omega)]
          rw [lN_shl e4 (by omega), show lN (2 ^ p) - (1 : Int64) = lN (2 ^ p - 1) from lN_sub (b := 1) (by omega), lN_and (by omega) (by omega)]
          have hm : q1 % 2 ^ p = q1 - 2 ^ p := by
            rw [Nat.mod_eq_sub_mod g1', Nat.mod_eq_of_lt (by omega)]
          rw [g_or (k := p) rfl (Nat.mod_lt _ (pw_pos p)) (by
            rw [hm]
            have : (y1 + B + p).toNat * 2 ^ p ≤ 2047 * 2 ^ 52 := Nat.mul_le_mul (by omega) hp52
            omega), hm]
          congr 1
          obtain ⟨z, hz⟩ : ∃ z, (y1 + B + p).toNat = z + 1 := ⟨(y1 + B + p).toNat - 1, by omega⟩
          rw [hz, show (y1 + B + p - 1).toNat = z by omega, Nat.add_mul, Nat.one_mul]
          omega
        · rw [cd_f g2, if_pos (by omega), lN_shl e4 (by omega)]
      · rw [cd_f g1, if_neg (by omega)]
        have := hl1 (by omega)
        rw [show (y1 + B + p - 1).toNat = 0 by omega, Nat.zero_mul, Nat.zero_add]
    unfold t_M_packed_101
    rw [c2_ne, h4, show ((53 : Int32).toInt) = 53 from rfl]
    rcases hpb with ⟨rfl, rfl⟩ | ⟨rfl, rfl⟩
    · rw [cd_f (by decide)]
      exact go _ rfl
    · rw [cd_t (by decide)]
      exact go _ rfl
  unfold t_M_packed_82
  rw [etop, etop2, lc_ne, lN_inj0 (by omega) (by omega)]
  by_cases hc : q = 2 ^ (p + 1)
  · rw [cd_f (by omega)]
    have hy3 : ((v2 + v6) + Int32.ofInt 1).toInt = y + 1 := by
      have := i_add (x := v2 + v6) 1 (by omega) (by omega) (by decide) (by decide)
      rw [this, hy]
    rw [key (2 ^ p) _ (y + 1) hy3 (by omega) (by omega) (by omega) (by omega)]
    congr 1
    subst hc
    by_cases g : (2 * B : Int) < y + B + p
    · rw [if_pos ⟨by omega, Nat.le_refl _⟩, if_pos ⟨g, by omega⟩]
    · rw [if_neg (by omega : ¬ ((2 * B : Int) < y + B + p ∧ 2 ^ p ≤ 2 ^ (p + 1)))]
      by_cases g' : (2 * B : Int) < y + 1 + B + p
      · rw [if_pos ⟨g', Nat.le_refl _⟩, show (y + B + p - 1).toNat = 2 * B - 1 by omega, hpp]
        obtain ⟨z, hz⟩ : ∃ z, 2 * B = z + 1 := ⟨2 * B - 1, by omega⟩
        rw [hz, Nat.add_sub_cancel, Nat.add_mul, Nat.add_mul]
        omega
      · rw [if_neg (by omega), show (y + 1 + B + p - 1).toNat = (y + B + p - 1).toNat + 1 by omega, Nat.add_mul, hpp]
        omega
  · rw [cd_t hc]
    exact key q _ y hy hy1 (by omega) (by omega) hlow
theorem packed_pk {p B M : Nat} {x mo wd le : Int32} (h4 : wd.toInt = (p : Int) + 1) (h5 : le.toInt = 1 - (B : Int) - p) (hpb : (p = 52 ∧ B = 1023) ∨ (p = 23 ∧ B = 127)) (hM : M ≠ 0) (hM2 : M < 2 ^ 63) (hx : -20000 ≤ x.toInt ∧ x.toInt ≤ 20000) : f_M_packed (lN M) x mo wd le = lN (pk p B M x.toInt (decide (¬ mo.toInt = 0))) := by
  unfold f_M_packed
  have hnb := nb_le hM2 hM
  have hnb1 : 1 ≤ nb M := by unfold nb; omega
  have hbits := bits_at hM (show M < 2 ^ 64 by omega)
  have eb : (f_M_bits (lN M) - wd).toInt = nb M - (p + 1) := i_subn hbits h4 (by omega) (by omega) (by omega) (by omega)
  rw [lc_ne, show ((lN M = 0) ↔ M = 0) from lN_inj0 (b := 0) (by omega) (by decide), cd_t hM]
  generalize hE : x.toInt = E at *
  have ex : (x + (f_M_bits (lN M) - wd)).toInt = E + (nb M - (p + 1)) := i_addy hE eb (by omega) (by omega)
  have el : (le - x).toInt = 1 - (B : Int) - p - E := i_subn h5 hE (by omega) (by omega) (by omega) (by omega)
  rw [c2_ge, ex, h5]
  have e63 : ((63 : Int32).toInt) = 63 := rfl
  -- with by = Y
  have go : ∀ (v6 : Int32) (Y : Int), v6.toInt = Y → Y = (nb M : Int) - (p + 1) + (if E + nb M - 1 + B < 1 then 1 - (E + nb M - 1 + B) else 0) → t_M_packed_20 (lN M) x mo wd le v6 = lN (pk p B M E (decide (¬ mo.toInt = 0))) := by
    intro v6 Y h6 hY
    unfold t_M_packed_20 pk
    rw [← hY]
    generalize hF : E + (nb M : Int) - 1 + B = F at *
    have hy : (x + v6).toInt = E + Y := i_addy hE h6 (by split at hY <;> omega) (by split at hY <;> omega)
    have hyF : (1 ≤ F → E + Y + B + p = F) ∧ (F < 1 → E + Y + B + p = 1) := by
      split at hY
      · exact ⟨fun h => by omega, fun _ => by omega⟩
      · exact ⟨fun _ => by omega, fun h => by omega⟩
    have hY2 : 1 - (B : Int) - p ≤ E + Y ∧ E + Y ≤ 100000 := by split at hY <;> omega
    have hFh : F ≤ 40000 := by omega
    rw [c2_le, h6, e63, c1_gt, h6, c2_ne, h6, e63]
    have hfin : ∀ q, q ≤ 2 ^ (p + 1) → (1 ≤ F → 2 ^ p ≤ q) → (q < 2 ^ p → F < 1) → t_M_packed_82 x wd le v6 (lN q) = lN (if (2 * B : Int) < F then (2 * B + 1) * 2 ^ p else (F - 1).toNat * 2 ^ p + q) := by
      intro q hq hq1 hq2
      rw [pck_82 h4 h5 hpb hy hY2.1 hY2.2 hq (fun h => by have := hyF.2 (hq2 h); omega)]
      congr 1
      by_cases g : 1 ≤ F
      · rw [hyF.1 g]
        have := hq1 g
        by_cases g2 : (2 * B : Int) < F
        · rw [if_pos ⟨g2, this⟩, if_pos g2]
        · rw [if_neg (by omega), if_neg g2]
      · rw [hyF.2 (by omega), if_neg (by omega), if_neg (by omega), show ((1 : Int) - 1).toNat = 0 from rfl, show (F - 1).toNat = 0 by omega]
    have hMlt := nb_lt M
    have hMge := nb_ge hM
    by_cases g1 : Y ≤ 63
    · rw [cd_t g1]
      by_cases g2 : 0 < Y
      · rw [cd_t g2]
        obtain ⟨b, hb⟩ : ∃ b : Nat, Y = (b : Int) := ⟨Y.toNat, by omega⟩
        have hq0 : M / 2 ^ b < 2 ^ (p + 1) := by
          rw [Nat.div_lt_iff_lt_mul (pw_pos b), ← pw_add]
          exact Nat.lt_of_lt_of_le hMlt (Nat.pow_le_pow_right (by decide) (by split at hY <;> omega))
        have hq1 : 1 ≤ F → 2 ^ p ≤ M / 2 ^ b := fun h => by
          rw [Nat.le_div_iff_mul_le (pw_pos b), ← pw_add]
          exact Nat.le_trans (Nat.pow_le_pow_right (by decide) (by rw [if_neg (by omega)] at hY; omega)) hMge
        have hq2 : F < 1 → M / 2 ^ b < 2 ^ p := fun h => by
          rw [Nat.div_lt_iff_lt_mul (pw_pos b), ← pw_add]
          exact Nat.lt_of_lt_of_le hMlt (Nat.pow_le_pow_right (by decide) (by rw [if_pos h] at hY; omega))
        have hb63 : 2 ^ b ≤ 2 ^ 63 := Nat.pow_le_pow_right (by decide) (by omega)
        have hpp : 2 ^ (p + 1) = 2 * 2 ^ p := by rw [Nat.pow_succ]; omega
        have hp52 : 2 ^ p ≤ 2 ^ 52 := Nat.pow_le_pow_right (by decide) (by omega)
        have h55 : t_M_packed_55 x mo wd le v6 (lN (M / 2 ^ b)) (lN (M % 2 ^ b)) = lN (if (2 * B : Int) < F then (2 * B + 1) * 2 ^ p else (F - 1).toNat * 2 ^ p + rne M b (decide (¬ mo.toInt = 0))) := by
          unfold t_M_packed_55 t_M_packed_78
          have e6 : (v6 - 1).toInt = ((b - 1 : Nat) : Int) := by
            rw [i_subn h6 (show ((1 : Int32).toInt) = 1 from rfl) (by omega) (by omega) (by omega) (by omega)]
            omega
          have hl : M % 2 ^ b < 2 ^ b := Nat.mod_lt _ (pw_pos b)
          have hh : 2 ^ b = 2 * 2 ^ (b - 1) := by
            obtain ⟨c, rfl⟩ : ∃ c, b = c + 1 := ⟨b - 1, by omega⟩
            rw [Nat.add_sub_cancel, Nat.pow_succ]
            omega
          rw [one_shl e6 (by omega), lc_gt, lc_ne, lN_i (by omega), lN_i (by omega), lN_inj0 (by omega) (by omega), c1_ne, lc_ne, show (lN (M / 2 ^ b) &&& (1 : Int64)) = lN (M / 2 ^ b % 2) from wb_a1 (by omega), show ((lN (M / 2 ^ b % 2) = 1) ↔ M / 2 ^ b % 2 = 1) from lN_inj0 (b := 1) (by omega) (by decide), show lN (M / 2 ^ b) + (1 : Int64) = lN (M / 2 ^ b + 1) from lN_add _ 1]
          have f0 := hfin (M / 2 ^ b) (by omega) hq1 (fun h => by by_cases g : 1 ≤ F; · have := hq1 g; omega; · omega)
          have f1 := hfin (M / 2 ^ b + 1) (by omega) (fun h => by have := hq1 h; omega) (fun h => by by_cases g : 1 ≤ F; · have := hq1 g; omega; · omega)
          rw [f0, f1]
          unfold rne
          by_cases k1 : ((2 ^ (b - 1) : Nat) : Int) < ((M % 2 ^ b : Nat) : Int)
          · rw [cd_t k1, if_pos (Or.inl (by omega))]
          · rw [cd_f k1]
            by_cases k2 : M % 2 ^ b = 2 ^ (b - 1)
            · rw [cd_f (by omega)]
              by_cases k3 : mo.toInt = 0
              · rw [cd_f (by omega)]
                by_cases k4 : M / 2 ^ b % 2 = 1
                · rw [cd_f (by omega), if_pos (Or.inr ⟨by omega, Or.inr k4⟩)]
                · rw [cd_t k4, if_neg (c := 2 ^ b < 2 * (M % 2 ^ b) ∨ _) (by
                    rintro (z | ⟨-, z | z⟩)
                    · omega
                    · simp [k3] at z
                    · exact k4 z)]
              · rw [cd_t k3, if_pos (Or.inr ⟨by omega, Or.inl (decide_eq_true k3)⟩)]
            · rw [cd_t k2, if_neg (c := 2 ^ b < 2 * (M % 2 ^ b) ∨ _) (by rintro (z | ⟨z, -⟩) <;> omega)]
        have hend : lN (if (2 * B : Int) < F then (2 * B + 1) * 2 ^ p else (F - 1).toNat * 2 ^ p + rne M b (decide (¬ mo.toInt = 0))) = lN (if (2 * B : Int) < F then (2 * B + 1) * 2 ^ p else if Y ≤ 0 then (F - 1).toNat * 2 ^ p + M * 2 ^ (-Y).toNat else (F - 1).toNat * 2 ^ p + rne M Y.toNat (decide (¬ mo.toInt = 0))) := by
          rw [if_neg (show ¬ Y ≤ 0 by omega), show Y.toNat = b by omega]
        rw [← hend, ← h55]
        have h40 : ∀ w, t_M_packed_40 (lN M) x mo wd le v6 w = t_M_packed_55 x mo wd le v6 w (lN (M % 2 ^ b)) := fun w => by
          unfold t_M_packed_40
          rw [c1_le, h6, cd_f (by omega), c2_ne, h6, e63]
          by_cases k : Y = 63
          · rw [cd_f (by omega)]
            have : b = 63 := by omega
            subst this
            rw [Nat.mod_eq_of_lt hM2]
          · rw [cd_t k, msk (k := b) (by rw [h6]; exact hb) (by omega), lN_and (by omega) (by omega)]
        by_cases k : Y = 63
        · rw [cd_f (by omega), h40]
          have : b = 63 := by omega
          subst this
          rw [Nat.div_eq_of_lt hM2]
          rfl
        · rw [cd_t k, h40, lN_shr (k := b) (by rw [h6]; exact hb) (by omega) (by omega)]
      · rw [cd_f g2]
        unfold t_M_packed_40
        rw [c1_le, h6, cd_t (by omega)]
        obtain ⟨j, hj⟩ : ∃ j : Nat, -Y = (j : Int) := ⟨(-Y).toNat, by omega⟩
        have en : (-v6).toInt = (j : Int) := by rw [i_negy h6 (by omega)]; exact hj
        have hj64 : j < 64 := by split at hY <;> omega
        rw [lN_shl en hj64]
        have hq0 : M * 2 ^ j < 2 ^ (p + 1) := by
          have := (Nat.mul_lt_mul_right (pw_pos j)).mpr hMlt
          rw [← pw_add] at this
          exact Nat.lt_of_lt_of_le this (Nat.pow_le_pow_right (by decide) (by split at hY <;> omega))
        rw [hfin (M * 2 ^ j) (by omega) (fun h => by
            have := Nat.mul_le_mul_right (2 ^ j) hMge
            rw [← pw_add] at this
            exact Nat.le_trans (Nat.pow_le_pow_right (by decide) (by rw [if_neg (by omega)] at hY; omega)) this) (fun h => by
            by_cases g : 1 ≤ F
            · exfalso
              have := Nat.mul_le_mul_right (2 ^ j) hMge
              rw [← pw_add] at this
              have h2 : 2 ^ p ≤ 2 ^ (nb M - 1 + j) := Nat.pow_le_pow_right (by decide) (by rw [if_neg (by omega)] at hY; omega)
              omega
            · omega)]
        rw [if_pos (show Y ≤ 0 by omega), show (-Y).toNat = j by omega]
    · rw [cd_f g1]
      have hF1 : F < 1 := by split at hY <;> omega
      rw [if_neg (by omega), if_neg (by omega), show (F - 1).toNat = 0 by omega]
      have hlt : M < 2 ^ (Y.toNat - 1) := Nat.lt_of_lt_of_le hM2 (Nat.pow_le_pow_right (by decide) (by omega))
      obtain ⟨z, hz⟩ : ∃ z, Y.toNat = z + 1 := ⟨Y.toNat - 1, by omega⟩
      rw [hz, Nat.add_sub_cancel] at hlt
      rw [hz]
      have h5 : 2 ^ (z + 1) = 2 * 2 ^ z := by rw [Nat.pow_succ]; omega
      unfold rne
      rw [h5, Nat.mod_eq_of_lt (by omega), Nat.div_eq_of_lt (by omega), if_neg (by rintro (k | ⟨k, -⟩) <;> omega)]
      rfl
  by_cases g : 1 - (B : Int) - p ≤ E + (nb M - (p + 1))
  · rw [cd_t g]
    exact go _ _ eb (by rw [if_neg (by omega)]; omega)
  · rw [cd_f g]
    exact go _ _ el (by rw [if_pos (by omega)]; omega)
