/-! REALS: the reference's packing -/
theorem i_subn {x y : Int32} {a b : Int} (hx : x.toInt = a) (hy : y.toInt = b) (h1 : -2147483648 ≤ a - b) (h2 : a - b ≤ 2147483647) (h3 : -2147483647 ≤ b) (h4 : b ≤ 2147483647) : (x - y).toInt = a - b := by
  have := i_add (x := x) (-b) (by omega) (by omega) (by omega) (by omega)
  rw [show x - y = x + Int32.ofInt (-b) from by
    rw [Int32.sub_eq_add_neg]
    congr 1
    rw [← hy, Int32.ofInt_neg, Int32.ofInt_toInt]]
  rw [this, hx]
  omega
theorem i_addy {x y : Int32} {a b : Int} (hx : x.toInt = a) (hy : y.toInt = b) (h1 : -2147483648 ≤ a + b) (h2 : a + b ≤ 2147483647) : (x + y).toInt = a + b := by
  have hb1 := Int32.minValue_le_toInt y
  have hb2 := Int32.toInt_le y
  have := i_add (x := x) b (by omega) (by omega) (by rw [← hy]; exact hb1) (by rw [← hy]; exact hb2)
  rw [show x + y = x + Int32.ofInt b from by rw [← hy, Int32.ofInt_toInt], this, hx]
theorem i_negy {x : Int32} {a : Int} (hx : x.toInt = a) (h : -2147483647 ≤ a) (h' : a ≤ 2147483647) : (-x).toInt = -a := by
  have := i_subn (x := 0) (y := x) z0 hx (by omega) (by omega) h (by omega)
  rw [show (0 : Int32) - x = -x from Int32.zero_sub x] at this
  rw [this]
  omega
theorem yL_mul (a b : Nat) : lN a * lN b = lN (a * b) := (Int64.ofNat_mul a b).symm
theorem q63 {p q : Nat} (hp : p ≤ 52) (h : q ≤ 2 ^ (p + 1)) : q < 2 ^ 63 := Nat.lt_of_le_of_lt h (wb_lt2 (by omega))
theorem pp63 {p : Nat} (hp : p ≤ 52) : 2 ^ p < 2 ^ 63 := wb_lt2 (by omega)
theorem pp64 {p : Nat} (hp : p ≤ 52) : 2 ^ (p + 1) < 2 ^ 64 := wb_lt2 (by omega)
theorem sm63 {n : Nat} (h : n < 200000) : n < 2 ^ 63 := Nat.lt_trans h (by decide)
theorem lt_i {a b : Nat} : ((a : Int) < (b : Int)) ↔ a < b := Int.ofNat_lt
theorem le_i {a b : Nat} : ((a : Int) ≤ (b : Int)) ↔ a ≤ b := Int.ofNat_le
theorem pk_or {p z q : Nat} (hp : p ≤ 52) (hz : z < 2048) (h1 : 2 ^ p ≤ q) (h2 : q < 2 ^ (p + 1)) : lN ((z + 1) * 2 ^ p) ||| (lN q &&& lN (2 ^ p - 1)) = lN (z * 2 ^ p + q) := by
  have hm : q % 2 ^ p = q - 2 ^ p := by
    rw [Nat.mod_eq_sub_mod h1, Nat.mod_eq_of_lt (by rw [Nat.pow_succ] at h2; omega)]
  rw [yL_and (Nat.lt_of_le_of_lt hp (by decide)) (lt64 (q63 hp (Nat.le_of_lt h2)))]
  rw [g_or (k := p) rfl (Nat.mod_lt _ (pw_pos p)) (by
    have a1 : (z + 1) * 2 ^ p ≤ 2048 * 2 ^ 52 := Nat.mul_le_mul (by omega) (Nat.pow_le_pow_right (by decide) hp)
    have a2 : q % 2 ^ p < 2 ^ 52 := Nat.lt_of_lt_of_le (Nat.mod_lt _ (pw_pos p)) (Nat.pow_le_pow_right (by decide) hp)
    exact Nat.lt_of_lt_of_le (Nat.add_lt_add_of_le_of_lt a1 a2) (by decide)), hm]
  congr 1
  rw [Nat.add_mul, Nat.one_mul]
  omega
theorem pck_101 {p B q1 : Nat} {v4 v5 v9 : Int32} {y1 : Int} (h4 : v4.toInt = (p : Int) + 1) (h5 : v5.toInt = 1 - (B : Int) - p) (hpb : (p = 52 ∧ B = 1023) ∨ (p = 23 ∧ B = 127)) (h9 : v9.toInt = y1) (hy1 : 1 - (B : Int) - p ≤ y1) (hy2 : y1 ≤ 100001) (hq1 : q1 < 2 ^ (p + 1)) (hl1 : q1 < 2 ^ p → y1 = 1 - (B : Int) - p) :
    t_M_packed_101 v4 v5 (lN q1) v9 (lN (2 ^ p)) = lN (if (2 * B : Int) < y1 + B + p ∧ 2 ^ p ≤ q1 then (2 * B + 1) * 2 ^ p else (y1 + B + p - 1).toNat * 2 ^ p + q1) := by
  have hp : p ≤ 52 := by omega
  have hB : B ≤ 1023 := by omega
  have e4 : (v4 - 1).toInt = (p : Int) := by
    rw [i_subn h4 (show ((1 : Int32).toInt) = 1 from rfl) (by omega) (by omega) (by omega) (by omega)]
    omega
  have e9 : (v9 - v5).toInt = y1 + B + p - 1 := by
    rw [i_subn h9 h5 (by omega) (by omega) (by omega) (by omega)]
    omega
  obtain ⟨z, hz⟩ : ∃ z : Nat, y1 + B + p - 1 = (z : Int) := ⟨(y1 + B + p - 1).toNat, by omega⟩
  have hz2 : z < 150000 := by omega
  have e10 : Int32.toInt64 (v9 - v5) + (1 : Int64) = lN (z + 1) := by
    rw [i64_of (k := z) (by rw [e9]; exact hz) (by omega)]
    exact yL_add z 1
  have go : ∀ w0 : Int64, w0 = lN (2 * B + 1) → t_M_packed_107 v4 v5 (lN q1) v9 (lN (2 ^ p)) w0 = lN (if (2 * B : Int) < y1 + B + p ∧ 2 ^ p ≤ q1 then (2 * B + 1) * 2 ^ p else (y1 + B + p - 1).toNat * 2 ^ p + q1) := by
    intro w0 hw
    subst hw
    unfold t_M_packed_107
    rw [e10, lc_ge, lc_lt, yL_i (a := 2 ^ p) (pp63 hp), yL_i (a := q1) (q63 hp (Nat.le_of_lt hq1)), yL_i (a := z + 1) (sm63 (by omega)), yL_i (a := 2 * B + 1) (sm63 (by omega)), dcg le_i, dcg lt_i, hz, Int.toNat_natCast]
    by_cases g1 : 2 ^ p ≤ q1
    · rw [cd_t g1]
      by_cases g2 : z + 1 < 2 * B + 1
      · rw [cd_t g2, if_neg (by omega), yL_shl e4 (Nat.lt_of_le_of_lt hp (by decide)), show lN (2 ^ p) - (1 : Int64) = lN (2 ^ p - 1) from yL_sub (b := 1) (pw_pos p)]
        exact pk_or hp (by omega) g1 hq1
      · rw [cd_f g2, if_pos ⟨by omega, g1⟩, yL_shl e4 (Nat.lt_of_le_of_lt hp (by decide))]
    · rw [cd_f g1, if_neg (fun h => g1 h.2)]
      have := hl1 (by omega)
      rw [show z = 0 by omega, Nat.zero_mul, Nat.zero_add]
  unfold t_M_packed_101
  rw [c2_ne, h4, show ((53 : Int32).toInt) = 53 from rfl]
  rcases hpb with ⟨rfl, rfl⟩ | ⟨rfl, rfl⟩
  · rw [cd_f (by decide)]
    exact go _ rfl
  · rw [cd_t (by decide)]
    exact go _ rfl
/-- the end of packed: q places at y -/
theorem pck_82 {p B q : Nat} {v2 v4 v5 v6 : Int32} {y : Int} (h4 : v4.toInt = (p : Int) + 1) (h5 : v5.toInt = 1 - (B : Int) - p) (hpb : (p = 52 ∧ B = 1023) ∨ (p = 23 ∧ B = 127)) (hy : (v2 + v6).toInt = y) (hy1 : 1 - (B : Int) - p ≤ y) (hy2 : y ≤ 100000) (hq : q ≤ 2 ^ (p + 1)) (hlow : q < 2 ^ p → y = 1 - (B : Int) - p) :
    t_M_packed_82 v2 v4 v5 v6 (lN q) = lN (if (2 * B : Int) < y + B + p ∧ 2 ^ p ≤ q then (2 * B + 1) * 2 ^ p else (y + B + p - 1).toNat * 2 ^ p + q) := by
  have hp : p ≤ 52 := by omega
  have hB : B ≤ 1023 := by omega
  have e4 : (v4 - 1).toInt = (p : Int) := by
    rw [i_subn h4 (show ((1 : Int32).toInt) = 1 from rfl) (by omega) (by omega) (by omega) (by omega)]
    omega
  have hpp : 2 ^ (p + 1) = 2 * 2 ^ p := by rw [Nat.pow_succ]; omega
  have hpos := pw_pos p
  have etop : (1 : Int64) <<< (Int32.toInt64 (v4 - 1) &&& 63) = lN (2 ^ p) := one_shl e4 (Nat.lt_of_le_of_lt hp (by decide))
  have etop2 : lN (2 ^ p) <<< (Int32.toInt64 (1 : Int32) &&& 63) = lN (2 ^ (p + 1)) := by
    rw [show lN (2 ^ p) <<< (Int32.toInt64 (1 : Int32) &&& 63) = lN (2 ^ p * 2 ^ 1) from yL_shl (y := 1) rfl (by decide), ← pw_add]
  unfold t_M_packed_82
  rw [etop, etop2, lc_ne, dcg (not_congr (yL_inj (lt64 (q63 hp hq)) (pp64 hp)))]
  by_cases hc : q = 2 ^ (p + 1)
  · rw [cd_f (fun h => h hc)]
    have hy3 : ((v2 + v6) + Int32.ofInt 1).toInt = y + 1 := by
      have := i_add (x := v2 + v6) 1 (by omega) (by omega) (by decide) (by decide)
      rw [this, hy]
    rw [pck_101 (q1 := 2 ^ p) h4 h5 hpb hy3 (by omega) (by omega) (by omega) (fun h => absurd h (Nat.lt_irrefl _))]
    congr 1
    rw [hc]
    obtain ⟨z, hz⟩ : ∃ z : Nat, y + B + p - 1 = (z : Int) := ⟨(y + B + p - 1).toNat, by omega⟩
    rw [show (y + 1 + B + p - 1).toNat = z + 1 by omega, show (y + B + p - 1).toNat = z by omega]
    by_cases g : (2 * B : Int) < y + B + p
    · rw [if_pos ⟨by omega, Nat.le_refl _⟩, if_pos ⟨g, by omega⟩]
    · by_cases g' : (2 * B : Int) < y + 1 + B + p
      · rw [if_pos ⟨g', Nat.le_refl _⟩, if_neg (fun h => g h.1), hpp]
        have : 2 * B = z + 1 := by omega
        rw [this, Nat.add_mul, Nat.add_mul]
        omega
      · rw [if_neg (fun h => g' h.1), if_neg (fun h => g h.1), Nat.add_mul, hpp]
        omega
  · rw [cd_t hc]
    exact pck_101 h4 h5 hpb hy hy1 (by omega) (by omega) hlow
theorem pck_55 {p B M b : Nat} {x mo wd le v6 : Int32} {F : Int} (h6 : v6.toInt = (b : Int)) (hb1 : 1 ≤ b) (hb : b < 64) (hM : M < 2 ^ 63)
    (hfin : ∀ q, q = M / 2 ^ b ∨ q = M / 2 ^ b + 1 → t_M_packed_82 x wd le v6 (lN q) = lN (if (2 * B : Int) < F then (2 * B + 1) * 2 ^ p else (F - 1).toNat * 2 ^ p + q)) :
    t_M_packed_55 x mo wd le v6 (lN (M / 2 ^ b)) (lN (M % 2 ^ b)) = lN (if (2 * B : Int) < F then (2 * B + 1) * 2 ^ p else (F - 1).toNat * 2 ^ p + rne M b (decide (¬ mo.toInt = 0))) := by
  have e6 := i_pred h6 hb1 (Nat.lt_trans hb (by decide))
  have hb63 : 2 ^ b ≤ 2 ^ 63 := Nat.pow_le_pow_right (by decide) (by clear hM; omega)
  have hl : M % 2 ^ b < 2 ^ 63 := Nat.lt_of_lt_of_le (Nat.mod_lt _ (pw_pos b)) hb63
  have hb62 : 2 ^ (b - 1) < 2 ^ 63 := p63 (by clear hM hl hb63; omega)
  have hd : M / 2 ^ b < 2 ^ 64 := Nat.lt_of_le_of_lt (Nat.div_le_self _ _) (lt64 hM)
  have hodd : (lN (M / 2 ^ b) &&& (1 : Int64)) = lN (M / 2 ^ b % 2) := wb_a1 hd
  unfold t_M_packed_55 t_M_packed_78
  rw [one_shl e6 (Nat.lt_of_le_of_lt (Nat.sub_le _ _) hb), lc_gt, lc_ne, yL_i (a := M % 2 ^ b) hl, yL_i (a := 2 ^ (b - 1)) hb62, c1_ne, lc_ne, hodd, show lN (M / 2 ^ b) + (1 : Int64) = lN (M / 2 ^ b + 1) from yL_add _ 1]
  rw [hfin _ (Or.inl rfl), hfin _ (Or.inr rfl)]
  rw [dcg lt_i, dcg (not_congr (yL_inj (lt64 hl) (lt64 hb62))), dcg (not_congr (show ((lN (M / 2 ^ b % 2) = 1) ↔ M / 2 ^ b % 2 = 1) from yL_inj (b := 1) (m2_lt _) (by decide)))]
  rw [rne_half (pw_half hb1)]
  simp only [cd_if, decide_eq_true_eq]
  simp only [if_ap (fun q => lN (if (2 * B : Int) < F then (2 * B + 1) * 2 ^ p else (F - 1).toNat * 2 ^ p + q))]
theorem pck_40 {M b : Nat} {x mo wd le v6 : Int32} (h6 : v6.toInt = (b : Int)) (hb1 : 1 ≤ b) (hb : b < 64) (hM : M < 2 ^ 63) (w : Int64) : t_M_packed_40 (lN M) x mo wd le v6 w = t_M_packed_55 x mo wd le v6 w (lN (M % 2 ^ b)) := by
  unfold t_M_packed_40
  rw [c1_le, c2_ne, h6, show ((63 : Int32).toInt) = 63 from rfl, cd_f (by clear hM; omega)]
  by_cases k : b = 63
  · rw [cd_f (by clear hM; omega)]
    rw [show M % 2 ^ b = M from Nat.mod_eq_of_lt (by rw [k]; exact hM)]
  · rw [cd_t (by clear hM; omega), msk h6 hb, yL_and hb (lt64 hM)]
theorem rne_z {M y : Nat} (h : M < 2 ^ y) (st : Bool) : rne M (y + 1) st = 0 := by
  have h5 : 2 ^ (y + 1) = 2 * 2 ^ y := by rw [Nat.pow_succ]; omega
  unfold rne
  rw [h5, Nat.mod_eq_of_lt (by omega), Nat.div_eq_of_lt (by omega), if_neg (by rintro (k | ⟨k, -⟩) <;> omega)]
/-- with the places that go -/
theorem pck_20 {p B M : Nat} {x mo wd le v6 : Int32} {E Y F : Int} (h4 : wd.toInt = (p : Int) + 1) (h5 : le.toInt = 1 - (B : Int) - p) (hpb : (p = 52 ∧ B = 1023) ∨ (p = 23 ∧ B = 127)) (hM : M ≠ 0) (hM2 : M < 2 ^ 63) (hE : x.toInt = E) (hx : -20000 ≤ E ∧ E ≤ 20000) (hF : E + (nb M : Int) - 1 + B = F) (h6 : v6.toInt = Y) (hY : Y = (nb M : Int) - (p + 1) + (if F < 1 then 1 - F else 0)) :
    t_M_packed_20 (lN M) x mo wd le v6 = lN (if (2 * B : Int) < F then (2 * B + 1) * 2 ^ p else if Y ≤ 0 then (F - 1).toNat * 2 ^ p + M * 2 ^ (-Y).toNat else (F - 1).toNat * 2 ^ p + rne M Y.toNat (decide (¬ mo.toInt = 0))) := by
  have hnb := nb_le hM2 hM
  have hnb1 : 1 ≤ nb M := by unfold nb; omega
  have hMlt := nb_lt M
  have hMge := nb_ge hM
  have hp : p ≤ 52 := by omega
  have hFY : (F < 1 ∧ Y = (nb M : Int) - (p + 1) + (1 - F)) ∨ (1 ≤ F ∧ Y = (nb M : Int) - (p + 1)) := by
    by_cases g : F < 1
    · rw [if_pos g] at hY
      exact Or.inl ⟨g, hY⟩
    · rw [if_neg g] at hY
      exact Or.inr ⟨by omega, by omega⟩
  have hM3 : LT63 M := hM2
  clear hM2 hY
  have hy : (x + v6).toInt = E + Y := i_addy hE h6 (by omega) (by omega)
  have hfin : ∀ q, q ≤ 2 ^ (p + 1) → (1 ≤ F → 2 ^ p ≤ q) → t_M_packed_82 x wd le v6 (lN q) = lN (if (2 * B : Int) < F then (2 * B + 1) * 2 ^ p else (F - 1).toNat * 2 ^ p + q) := by
    intro q hq hq1
    rw [pck_82 h4 h5 hpb hy (by omega) (by omega) hq (fun h => by
      by_cases g : 1 ≤ F
      · have := hq1 g; omega
      · omega)]
    congr 1
    by_cases g : 1 ≤ F
    · have e := hq1 g
      rw [show E + Y + B + p = F by omega]
      by_cases g2 : (2 * B : Int) < F
      · rw [if_pos ⟨g2, e⟩, if_pos g2]
      · rw [if_neg (fun h => g2 h.1), if_neg g2]
    · rw [show E + Y + B + p = 1 by omega, if_neg (by omega), if_neg (by omega), show ((1 : Int) - 1).toNat = 0 from rfl, show (F - 1).toNat = 0 by omega]
  unfold t_M_packed_20
  rw [c2_le, c1_gt, c2_ne, h6, show ((63 : Int32).toInt) = 63 from rfl]
  by_cases g1 : Y ≤ 63
  · rw [cd_t g1]
    by_cases g2 : 0 < Y
    · obtain ⟨b, hb⟩ : ∃ b : Nat, Y = (b : Int) := ⟨Y.toNat, by omega⟩
      subst hb
      rw [cd_t g2, if_neg (show ¬ (b : Int) ≤ 0 by omega), Int.toNat_natCast]
      have hb1 : 1 ≤ b := by omega
      have hb64 : b < 64 := by omega
      have hpp : 2 ^ (p + 1) = 2 * 2 ^ p := by rw [Nat.pow_succ]; omega
      have hq0 : M / 2 ^ b < 2 ^ (p + 1) := by
        rw [Nat.div_lt_iff_lt_mul (pw_pos b), ← pw_add]
        exact Nat.lt_of_lt_of_le hMlt (Nat.pow_le_pow_right (by decide) (by omega))
      have hq1 : 1 ≤ F → 2 ^ p ≤ M / 2 ^ b := fun h => by
        rw [Nat.le_div_iff_mul_le (pw_pos b), ← pw_add]
        exact Nat.le_trans (Nat.pow_le_pow_right (by decide) (by omega)) hMge
      have h55 := pck_55 (p := p) (B := B) (x := x) (mo := mo) (wd := wd) (le := le) (F := F) h6 hb1 hb64 hM3 (fun q hq => by
        rcases hq with rfl | rfl
        · exact hfin _ (Nat.le_of_lt hq0) hq1
        · exact hfin _ hq0 (fun h => Nat.le_succ_of_le (hq1 h)))
      rw [pck_40 h6 hb1 hb64 hM3, pck_40 h6 hb1 hb64 hM3, ← h55]
      by_cases k : b = 63
      · rw [cd_f (by omega), show M / 2 ^ b = 0 from Nat.div_eq_of_lt (by rw [k]; exact hM3)]
        rfl
      · rw [cd_t (by omega), yL_shr h6 hb64 (lt64 hM3)]
    · rw [cd_f g2, if_pos (show Y ≤ 0 by omega)]
      unfold t_M_packed_40
      rw [c1_le, h6, cd_t (by omega)]
      obtain ⟨j, hj⟩ : ∃ j : Nat, -Y = (j : Int) := ⟨(-Y).toNat, by omega⟩
      have en : (-v6).toInt = (j : Int) := by rw [i_negy h6 (by omega) (by omega)]; exact hj
      rw [yL_shl en (by omega), hj, Int.toNat_natCast]
      refine hfin (M * 2 ^ j) ?_ (fun h => ?_)
      · have := Nat.mul_le_mul_right (2 ^ j) (Nat.le_of_lt hMlt)
        rw [← pw_add] at this
        exact Nat.le_trans this (Nat.pow_le_pow_right (by decide) (by omega))
      · have := Nat.mul_le_mul_right (2 ^ j) hMge
        rw [← pw_add] at this
        exact Nat.le_trans (Nat.pow_le_pow_right (by decide) (by omega)) this
  · rw [cd_f g1, if_neg (by omega), if_neg (by omega), show (F - 1).toNat = 0 by omega]
    obtain ⟨z, hz⟩ : ∃ z, Y.toNat = z + 1 := ⟨Y.toNat - 1, by omega⟩
    rw [hz, rne_z (Nat.lt_of_lt_of_le hM3 (Nat.pow_le_pow_right (by decide) (by omega))), Nat.zero_mul]
    rfl
theorem packed_pk {p B M : Nat} {x mo wd le : Int32} (h4 : wd.toInt = (p : Int) + 1) (h5 : le.toInt = 1 - (B : Int) - p) (hpb : (p = 52 ∧ B = 1023) ∨ (p = 23 ∧ B = 127)) (hM : M ≠ 0) (hM2 : M < 2 ^ 63) (hx : -20000 ≤ x.toInt ∧ x.toInt ≤ 20000) : f_M_packed (lN M) x mo wd le = lN (pk p B M x.toInt (decide (¬ mo.toInt = 0))) := by
  unfold f_M_packed pk
  have hnb := nb_le hM2 hM
  have hbits := bits_at hM (lt64 hM2)
  rw [lc_ne, dcg (not_congr (show ((lN M = 0) ↔ M = 0) from yL_inj (b := 0) (lt64 hM2) (by decide))), cd_t hM]
  have hM3 : LT63 M := hM2
  clear hM2
  have hp : p ≤ 52 ∧ B ≤ 1023 := by omega
  have eb : (f_M_bits (lN M) - wd).toInt = nb M - (p + 1) := i_subn hbits h4 (by omega) (by omega) (by omega) (by omega)
  have ex : (x + (f_M_bits (lN M) - wd)).toInt = x.toInt + (nb M - (p + 1)) := i_addy rfl eb (by omega) (by omega)
  have el : (le - x).toInt = 1 - (B : Int) - p - x.toInt := i_subn h5 rfl (by omega) (by omega) (by omega) (by omega)
  rw [c2_ge, ex, h5]
  by_cases g : 1 - (B : Int) - p ≤ x.toInt + (nb M - (p + 1))
  · rw [cd_t g]
    exact pck_20 h4 h5 hpb hM hM3 rfl hx rfl (by rw [eb, if_neg (by omega)]; omega) rfl
  · rw [cd_f g]
    exact pck_20 h4 h5 hpb hM hM3 rfl hx rfl (by rw [el, if_pos (by omega)]; omega) rfl
