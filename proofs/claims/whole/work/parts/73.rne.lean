/-! REALS, in naturals: rounding to the nearest, ties to even -/
def rne (M b : Nat) (st : Bool) : Nat := if 2 ^ b < 2 * (M % 2 ^ b) ∨ (2 * (M % 2 ^ b) = 2 ^ b ∧ (st = true ∨ M / 2 ^ b % 2 = 1)) then M / 2 ^ b + 1 else M / 2 ^ b
theorem ite_cg {α : Type} {p q : Prop} [Decidable p] [Decidable q] (h : p ↔ q) (x y : α) : (if p then x else y) = if q then x else y := by
  by_cases k : p
  · rw [if_pos k, if_pos (h.mp k)]
  · rw [if_neg k, if_neg (fun z => k (h.mpr z))]
theorem pw_pos (k : Nat) : 0 < 2 ^ k := Nat.two_pow_pos k
theorem pw_add (a b : Nat) : 2 ^ (a + b) = 2 ^ a * 2 ^ b := Nat.pow_add 2 a b
theorem rne_scale (M b j : Nat) (st : Bool) : rne (M * 2 ^ j) (b + j) st = rne M b st := by
  unfold rne
  have hj := pw_pos j
  have h1 : M * 2 ^ j / 2 ^ (b + j) = M / 2 ^ b := by rw [pw_add, Nat.mul_div_mul_right _ _ hj]
  have h2 : M * 2 ^ j % 2 ^ (b + j) = M % 2 ^ b * 2 ^ j := by rw [pw_add, Nat.mul_mod_mul_right]
  have h3 : (2 ^ (b + j) < 2 * (M % 2 ^ b * 2 ^ j)) ↔ (2 ^ b < 2 * (M % 2 ^ b)) := by
    rw [pw_add, ← Nat.mul_assoc]
    exact Nat.mul_lt_mul_right hj
  have h4 : (2 * (M % 2 ^ b * 2 ^ j) = 2 ^ (b + j)) ↔ (2 * (M % 2 ^ b) = 2 ^ b) := by
    rw [pw_add, ← Nat.mul_assoc]
    exact Nat.mul_left_inj (by omega)
  rw [h1, h2]
  simp only [h3, h4]
/-- k places dropped, what was lost told by the flag -/
theorem rne_flag (P b k : Nat) (hb : 1 ≤ b) : rne P (b + k) false = rne (P / 2 ^ k) b (decide (P % 2 ^ k ≠ 0)) := by
  obtain ⟨c, rfl⟩ : ∃ c, b = c + 1 := ⟨b - 1, by omega⟩
  unfold rne
  have hk := pw_pos k
  generalize hM : P / 2 ^ k = M
  generalize hρ : P % 2 ^ k = ρ
  have hP : P = M * 2 ^ k + ρ := by rw [← hM, ← hρ]; exact (Nat.div_add_mod' P (2 ^ k)).symm
  have hρk : ρ < 2 ^ k := by rw [← hρ]; exact Nat.mod_lt _ hk
  have h1 : P / 2 ^ (c + 1 + k) = M / 2 ^ (c + 1) := by rw [Nat.add_comm (c + 1) k, pw_add, ← Nat.div_div_eq_div_mul, hM]
  have h2 : P % 2 ^ (c + 1 + k) = M % 2 ^ (c + 1) * 2 ^ k + ρ := by
    rw [Nat.add_comm (c + 1) k, pw_add, Nat.mod_mul, hM, hρ, Nat.mul_comm, Nat.add_comm]
  rw [h1, h2]
  generalize M % 2 ^ (c + 1) = r
  generalize M / 2 ^ (c + 1) = q
  have e1 : 2 ^ (c + 1 + k) = 2 * (2 ^ c * 2 ^ k) := by rw [pw_add, pw_add, Nat.pow_one, Nat.mul_comm (2 ^ c) 2, Nat.mul_assoc]
  have e2 : 2 ^ (c + 1) = 2 * 2 ^ c := by rw [pw_add]; omega
  rw [e1, e2]
  generalize 2 ^ c = h at *
  generalize 2 ^ k = K at *
  have g : (2 * (h * K) < 2 * (r * K + ρ) ∨ 2 * (r * K + ρ) = 2 * (h * K) ∧ (false = true ∨ q % 2 = 1)) ↔ (2 * h < 2 * r ∨ 2 * r = 2 * h ∧ (decide (ρ ≠ 0) = true ∨ q % 2 = 1)) := by
    rcases Nat.lt_trichotomy r h with hr | hr | hr
    · have : (r + 1) * K ≤ h * K := Nat.mul_le_mul_right K hr
      rw [Nat.add_mul, Nat.one_mul] at this
      constructor
      · rintro (z | ⟨z, -⟩) <;> omega
      · rintro (z | ⟨z, -⟩) <;> omega
    · subst hr
      simp only [decide_eq_true_eq]
      constructor
      · rintro (z | ⟨z, z2 | z2⟩)
        · exact Or.inr ⟨trivial, Or.inl (by omega)⟩
        · cases z2
        · exact Or.inr ⟨trivial, Or.inr z2⟩
      · rintro (z | ⟨-, z | z⟩)
        · omega
        · exact Or.inl (by omega)
        · by_cases hz : ρ = 0
          · exact Or.inr ⟨by omega, Or.inr z⟩
          · exact Or.inl (by omega)
    · have : (h + 1) * K ≤ r * K := Nat.mul_le_mul_right K hr
      rw [Nat.add_mul, Nat.one_mul] at this
      exact ⟨fun _ => Or.inl (by omega), fun _ => Or.inl (by omega)⟩
  exact ite_cg g _ _
/-- k places dropped, what was lost told by the lowest bit -/
def stk (P k : Nat) : Nat := if P % 2 ^ k = 0 then P / 2 ^ k else P / 2 ^ k / 2 * 2 + 1
theorem rne_stick (P b k : Nat) (hb : 2 ≤ b) : rne P (b + k) false = rne (stk P k) b false := by
  rw [rne_flag P b k (by omega)]
  obtain ⟨c, rfl⟩ : ∃ c, b = c + 2 := ⟨b - 2, by omega⟩
  unfold stk
  by_cases hz : P % 2 ^ k = 0
  · rw [if_pos hz, show decide (P % 2 ^ k ≠ 0) = false from decide_eq_false (by omega)]
  · rw [if_neg hz, show decide (P % 2 ^ k ≠ 0) = true from decide_eq_true hz]
    generalize P / 2 ^ k = M
    unfold rne
    have e2 : 2 ^ (c + 2) = 4 * 2 ^ c := by rw [pw_add]; omega
    have hc := pw_pos c
    rw [e2]
    generalize 2 ^ c = h at *
    have h1 : (M / 2 * 2 + 1) / (4 * h) = M / (4 * h) := by
      rw [show 4 * h = 2 * (2 * h) by omega, ← Nat.div_div_eq_div_mul (M / 2 * 2 + 1) 2 (2 * h), ← Nat.div_div_eq_div_mul M 2 (2 * h)]
      congr 1
      omega
    have hr1 := Nat.div_add_mod M (4 * h)
    have hr2 := Nat.div_add_mod (M / 2 * 2 + 1) (4 * h)
    have hl1 := Nat.mod_lt M (show 0 < 4 * h by omega)
    have hl2 := Nat.mod_lt (M / 2 * 2 + 1) (show 0 < 4 * h by omega)
    rw [h1] at hr2 ⊢
    generalize hX : 4 * h * (M / (4 * h)) = X at *
    generalize M % (4 * h) = r at *
    generalize (M / 2 * 2 + 1) % (4 * h) = r' at *
    have hXe : X % 2 = 0 := by rw [← hX, show 4 * h * (M / (4 * h)) = 2 * (2 * h * (M / (4 * h))) by rw [← Nat.mul_assoc]; congr 1; omega]; exact Nat.mul_mod_right 2 _
    have g : (4 * h < 2 * r ∨ 2 * r = 4 * h ∧ (true = true ∨ M / (4 * h) % 2 = 1)) ↔ (4 * h < 2 * r' ∨ 2 * r' = 4 * h ∧ (false = true ∨ M / (4 * h) % 2 = 1)) := by
      constructor
      · rintro (z | ⟨z, -⟩) <;> exact Or.inl (by omega)
      · rintro (z | ⟨z, -⟩)
        · by_cases q : 2 * r = 4 * h
          · exact Or.inr ⟨q, Or.inl rfl⟩
          · exact Or.inl (by omega)
        · omega
    exact ite_cg g _ _
/-! bits -/
def nb (M : Nat) : Nat := Nat.log2 M + 1
theorem nb_lt (M : Nat) : M < 2 ^ nb M := Nat.lt_log2_self
theorem nb_ge {M : Nat} (h : M ≠ 0) : 2 ^ (nb M - 1) ≤ M := Nat.log2_self_le h
theorem nb_eq {M k : Nat} (h1 : 2 ^ k ≤ M) (h2 : M < 2 ^ (k + 1)) : nb M = k + 1 := by
  have h0 : M ≠ 0 := by have := pw_pos k; omega
  unfold nb
  have a := (Nat.le_log2 h0).mpr h1
  have b := (Nat.log2_lt h0).mpr h2
  omega
theorem nb_div {P k : Nat} (h : P / 2 ^ k ≠ 0) : nb P = nb (P / 2 ^ k) + k := by
  have h1 := nb_lt (P / 2 ^ k)
  have h2 := nb_ge h
  obtain ⟨j, hj⟩ : ∃ j, nb (P / 2 ^ k) = j + 1 := ⟨_, rfl⟩
  rw [hj] at h1 h2 ⊢
  rw [Nat.add_sub_cancel] at h2
  rw [nb_eq (k := j + k)]
  · omega
  · rw [pw_add]
    exact (Nat.le_div_iff_mul_le (pw_pos k)).mp h2
  · rw [show j + k + 1 = (j + 1) + k by omega, pw_add (j + 1) k]
    exact (Nat.div_lt_iff_lt_mul (pw_pos k)).mp h1
theorem nb_mul {M : Nat} (h : M ≠ 0) (k : Nat) : nb (M * 2 ^ k) = nb M + k := by
  have e : M * 2 ^ k / 2 ^ k = M := Nat.mul_div_cancel _ (pw_pos k)
  have := nb_div (P := M * 2 ^ k) (k := k) (by rw [e]; exact h)
  rw [e] at this
  exact this
theorem nb_odd {M : Nat} (h : M ≠ 0) : nb (M / 2 * 2 + 1) = nb M := by
  have h1 := nb_lt M
  have h2 := nb_ge h
  obtain ⟨j, hj⟩ : ∃ j, nb M = j + 1 := ⟨_, rfl⟩
  rw [hj] at h1 h2 ⊢
  rw [Nat.add_sub_cancel] at h2
  cases j with
  | zero =>
    have : M = 1 := by rw [Nat.pow_zero] at h2; rw [Nat.zero_add, Nat.pow_one] at h1; omega
    subst this
    exact nb_eq (by decide) (by decide)
  | succ j =>
    refine nb_eq ?_ ?_
    · rw [Nat.pow_succ] at h2 ⊢; omega
    · rw [Nat.pow_succ] at h1 ⊢; omega
/-- the bits of the nearest real to M times 2 to the E: p places, bias B -/
def pk (p B M : Nat) (E : Int) (st : Bool) : Nat :=
  if (2 * B : Int) < E + nb M - 1 + B then (2 * B + 1) * 2 ^ p
  else if (nb M : Int) - (p + 1) + (if E + nb M - 1 + B < 1 then 1 - (E + nb M - 1 + B) else 0) ≤ 0 then (E + nb M - 1 + B - 1).toNat * 2 ^ p + M * 2 ^ (-((nb M : Int) - (p + 1) + (if E + nb M - 1 + B < 1 then 1 - (E + nb M - 1 + B) else 0))).toNat
  else (E + nb M - 1 + B - 1).toNat * 2 ^ p + rne M ((nb M : Int) - (p + 1) + (if E + nb M - 1 + B < 1 then 1 - (E + nb M - 1 + B) else 0)).toNat st
/-- how many places go -/
def pby (p B M : Nat) (E : Int) : Int := (nb M : Int) - (p + 1) + (if E + nb M - 1 + B < 1 then 1 - (E + nb M - 1 + B) else 0)
theorem pk_flag {p B P k : Nat} {E : Int} (h : P / 2 ^ k ≠ 0) (hb : 1 ≤ pby p B (P / 2 ^ k) (E + k)) : pk p B P E false = pk p B (P / 2 ^ k) (E + k) (decide (P % 2 ^ k ≠ 0)) := by
  have hn := nb_div h
  unfold pby at hb
  unfold pk
  rw [hn]
  rw [show E + ((nb (P / 2 ^ k) + k : Nat) : Int) - 1 + B = E + k + nb (P / 2 ^ k) - 1 + B by omega]
  generalize hF : E + k + (nb (P / 2 ^ k) : Int) - 1 + B = F at *
  generalize hG : (if F < 1 then 1 - F else 0) = G at *
  by_cases h1 : (2 * B : Int) < F
  · rw [if_pos h1, if_pos h1]
  · rw [if_neg h1, if_neg h1, if_neg (by omega), if_neg (by omega)]
    rw [show (((nb (P / 2 ^ k) + k : Nat) : Int) - (p + 1) + G).toNat = ((nb (P / 2 ^ k) : Int) - (p + 1) + G).toNat + k by omega, rne_flag _ _ _ (by omega)]
theorem pk_stick {p B P k : Nat} {E : Int} (h : P / 2 ^ k ≠ 0) (hb : 2 ≤ pby p B (P / 2 ^ k) (E + k)) : pk p B P E false = pk p B (stk P k) (E + k) false := by
  have hn := nb_div h
  have hs : nb (stk P k) = nb (P / 2 ^ k) := by
    unfold stk
    split
    · rfl
    · exact nb_odd h
  unfold pby at hb
  unfold pk
  rw [hn, hs]
  rw [show E + ((nb (P / 2 ^ k) + k : Nat) : Int) - 1 + B = E + k + nb (P / 2 ^ k) - 1 + B by omega]
  generalize hF : E + k + (nb (P / 2 ^ k) : Int) - 1 + B = F at *
  generalize hG : (if F < 1 then 1 - F else 0) = G at *
  by_cases h1 : (2 * B : Int) < F
  · rw [if_pos h1, if_pos h1]
  · rw [if_neg h1, if_neg h1, if_neg (by omega), if_neg (by omega)]
    rw [show (((nb (P / 2 ^ k) + k : Nat) : Int) - (p + 1) + G).toNat = ((nb (P / 2 ^ k) : Int) - (p + 1) + G).toNat + k by omega, rne_stick _ _ _ (by omega)]
theorem pk_scale {p B M : Nat} (hM : M ≠ 0) (k : Nat) (E : Int) : pk p B (M * 2 ^ k) E false = pk p B M (E + k) false := by
  have hn := nb_mul hM k
  unfold pk
  rw [hn]
  rw [show E + ((nb M + k : Nat) : Int) - 1 + B = E + k + nb M - 1 + B by omega]
  generalize hF : E + k + (nb M : Int) - 1 + B = F at *
  generalize hG : (if F < 1 then 1 - F else 0) = G at *
  by_cases h1 : (2 * B : Int) < F
  · rw [if_pos h1, if_pos h1]
  · rw [if_neg h1, if_neg h1]
    by_cases h2 : (nb M : Int) - (p + 1) + G ≤ 0
    · rw [if_pos h2]
      by_cases h3 : ((nb M + k : Nat) : Int) - (p + 1) + G ≤ 0
      · rw [if_pos h3, Nat.mul_assoc, ← pw_add]
        congr 3
        omega
      · rw [if_neg h3]
        congr 1
        obtain ⟨b, hb⟩ : ∃ b : Nat, (((nb M + k : Nat) : Int) - (p + 1) + G).toNat = b := ⟨_, rfl⟩
        rw [hb]
        obtain ⟨j, hj⟩ : ∃ j, k = b + j := ⟨k - b, by omega⟩
        have e : (-((nb M : Int) - (p + 1) + G)).toNat = j := by omega
        rw [e, hj, show M * 2 ^ (b + j) = M * 2 ^ j * 2 ^ b by rw [pw_add, Nat.mul_assoc, Nat.mul_comm (2 ^ b)]]
        have := rne_scale (M * 2 ^ j) 0 b false
        rw [Nat.zero_add] at this
        rw [this]
        unfold rne
        simp
        omega
    · rw [if_neg h2, if_neg (by omega)]
      congr 1
      rw [show (((nb M + k : Nat) : Int) - (p + 1) + G).toNat = ((nb M : Int) - (p + 1) + G).toNat + k by omega, rne_scale]
