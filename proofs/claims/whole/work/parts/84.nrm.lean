/-! REALS: mantissas shifted up to 53 bits -/
def zg (u : Nat) : Nat := 53 - nb (zm u)
def zn (u : Nat) : Nat := zm u * 2 ^ zg u
def zy (u : Nat) : Int := zx u - zg u
theorem nb_lx {m k : Nat} (h : m < 2 ^ k) (h0 : m ≠ 0) : nb m ≤ k := by
  unfold nb
  have := (Nat.log2_lt h0).mpr h
  omega
theorem nb_1 (m : Nat) : 1 ≤ nb m := Nat.le_add_left 1 _
theorem nrm_b {m : Nat} (h0 : m ≠ 0) (h : m < 2 ^ 53) : 2 ^ 52 ≤ m * 2 ^ (53 - nb m) ∧ m * 2 ^ (53 - nb m) < 2 ^ 53 := by
  have hl := nb_lx h h0
  have h1 := nb_1 m
  have a := Nat.mul_le_mul_right (2 ^ (53 - nb m)) (nb_ge h0)
  have b := (Nat.mul_lt_mul_right (pw_pos (53 - nb m))).mpr (nb_lt m)
  rw [← pw_add] at a b
  rw [show nb m - 1 + (53 - nb m) = 52 by clear a b h; omega] at a
  rw [show nb m + (53 - nb m) = 53 by clear a b h; omega] at b
  exact ⟨a, b⟩
theorem nrm_t {m j : Nat} (h0 : m ≠ 0) (h : m < 2 ^ 53) : 2 ^ 52 ≤ m * 2 ^ j ↔ 53 - nb m ≤ j := by
  have hl := nb_lx h h0
  have h1 := nb_1 m
  constructor
  · intro z
    refine Nat.le_of_not_lt fun y => ?_
    have b := (Nat.mul_lt_mul_right (pw_pos j)).mpr (nb_lt m)
    rw [← pw_add] at b
    have := Nat.lt_of_le_of_lt z b
    have := (Nat.pow_lt_pow_iff_right (by decide)).mp this
    clear b z h
    omega
  · intro z
    exact Nat.le_trans (nrm_b h0 h).1 (Nat.mul_le_mul_left _ (Nat.pow_le_pow_right (by decide) z))
theorem l52 {a : Nat} (h : a < 2 ^ 63) : cn1 .ge (lg_cmp (lN a) (4503599627370496 : Int64)) = decide (2 ^ 52 ≤ a) := by
  rw [lc_ge, yL_i h, show ((4503599627370496 : Int64).toInt) = ((2 ^ 52 : Nat) : Int) from by decide]
  exact dcg Int.ofNat_le
/-- a loop that doubles till there are 53 bits -/
theorem nrm_loop {α : Type} (L : Nat → Int64 → Int32 → α) (F : Int64 → Int32 → α) (s : Int) (hs : s = 1 ∨ s = -1) (hL : ∀ n a e, L (n + 1) a e = cond (cn1 .ge (lg_cmp a (4503599627370496 : Int64))) (F a e) (L n (a <<< (Int32.toInt64 (1 : Int32) &&& 63)) (e + Int32.ofInt s))) :
    ∀ (n a : Nat) (e : Int32) (E : Int), a ≠ 0 → a < 2 ^ 53 → 53 - nb a < n → e.toInt = E → -10000 - (nb a : Int) ≤ E → E ≤ 10000 + (nb a : Int) → ∃ e' : Int32, e'.toInt = E + s * ((53 - nb a : Nat) : Int) ∧ L n (lN a) e = F (lN (a * 2 ^ (53 - nb a))) e' := by
  intro n
  induction n with
  | zero => intro a e E _ _ h; exact absurd h (Nat.not_lt_zero _)
  | succ n ih =>
    intro a e E h0 h hn he l1 l2
    have hl := nb_lx h h0
    rw [hL, l52 (Nat.lt_trans h (by decide))]
    have ht := nrm_t (j := 0) h0 h
    rw [Nat.pow_zero, Nat.mul_one] at ht
    by_cases hz : 2 ^ 52 ≤ a
    · have hg : 53 - nb a = 0 := Nat.le_zero.mp (ht.mp hz)
      rw [cd_t hz, hg]
      refine ⟨e, ?_, by rw [Nat.pow_zero, Nat.mul_one]⟩
      rw [he]
      simp
    · have hg : 1 ≤ 53 - nb a := Nat.one_le_iff_ne_zero.mpr (fun z => hz (ht.mpr (Nat.le_of_eq z)))
      have hnb : nb (a * 2 ^ 1) = nb a + 1 := nb_mul h0 1
      have ha2 : a * 2 ^ 1 < 2 ^ 53 := by
        have := Nat.lt_of_not_le hz
        rw [show (2 : Nat) ^ 53 = 2 ^ 52 * 2 ^ 1 by decide]
        exact (Nat.mul_lt_mul_right (by decide)).mpr this
      rw [cd_f hz, yL_shl (y := 1) (k := 1) rfl (by decide)]
      have hb := nb_1 a
      have he' : (e + Int32.ofInt s).toInt = E + s := by
        rw [i_add s (by rw [he]; rcases hs with z | z <;> rw [z] <;> clear h hz ht ha2 <;> omega) (by rw [he]; rcases hs with z | z <;> rw [z] <;> clear h hz ht ha2 <;> omega) (by rcases hs with z | z <;> rw [z] <;> decide) (by rcases hs with z | z <;> rw [z] <;> decide), he]
      obtain ⟨e1, q1, q2⟩ := ih (a * 2 ^ 1) _ _ (Nat.mul_ne_zero h0 (by decide)) ha2 (by rw [hnb]; clear h hz ht ha2; omega) he' (by rw [hnb]; rcases hs with z | z <;> rw [z] <;> clear h hz ht ha2 <;> omega) (by rw [hnb]; rcases hs with z | z <;> rw [z] <;> clear h hz ht ha2 <;> omega)
      refine ⟨e1, ?_, ?_⟩
      · rw [q1, hnb]
        rcases hs with z | z <;> rw [z] <;> clear h hz ht ha2 q2 <;> omega
      · rw [q2, hnb, Nat.mul_assoc, ← pw_add]
        congr 4
        clear h hz ht ha2 q2
        omega
theorem gap_l {m : Nat} (h0 : m ≠ 0) (h : m < 2 ^ 53) : ∀ (n j : Nat) (v : Int32), n + j = 53 → j ≤ 53 - nb m → v.toInt = (j : Int) → (t_Re_gap_2 n (lN m) v).toInt = ((53 - nb m : Nat) : Int) := by
  intro n
  have h1 := nb_1 m
  induction n with
  | zero => intro j v hj hl; clear h; omega
  | succ n ih =>
    intro j v hj hl hv
    rw [t_Re_gap_2, c2_ge, hv, show ((52 : Int32).toInt) = 52 from rfl]
    by_cases h52 : (52 : Int) ≤ (j : Int)
    · rw [cd_t h52, hv]
      clear h
      omega
    · rw [cd_f h52, yL_shl hv (by clear h; omega)]
      have hjm : m * 2 ^ j < 2 ^ 53 := Nat.lt_of_le_of_lt (Nat.mul_le_mul_left _ (Nat.pow_le_pow_right (by decide) hl)) (nrm_b h0 h).2
      rw [l52 (Nat.lt_trans hjm (by decide)), dcg (nrm_t h0 h)]
      by_cases hz : 53 - nb m ≤ j
      · rw [cd_t hz, hv]
        clear h hjm
        omega
      · rw [cd_f hz]
        exact ih (j + 1) _ (by clear h hjm; omega) (by clear h hjm; omega) (by rw [i_add 1 (by rw [hv]; clear h hjm; omega) (by rw [hv]; clear h hjm; omega) (by decide) (by decide), hv]; rfl)
theorem d_gap {u : Nat} (h0 : zm u ≠ 0) : (f_Re_gap (lN (zm u))).toInt = (zg u : Int) := gap_l h0 (zm_lt u) 53 0 0 rfl (Nat.zero_le _) rfl
theorem zg_lt {u : Nat} : zg u ≤ 52 := by have := nb_1 (zm u); unfold zg; omega
theorem d_zn {u : Nat} (h0 : zm u ≠ 0) : lN (zm u) <<< (Int32.toInt64 (f_Re_gap (lN (zm u))) &&& 63) = lN (zn u) := yL_shl (d_gap h0) (Nat.lt_of_le_of_lt zg_lt (by decide))
theorem zn_b {u : Nat} (h0 : zm u ≠ 0) : 2 ^ 52 ≤ zn u ∧ zn u < 2 ^ 53 := nrm_b h0 (zm_lt u)
theorem d_zy {u : Nat} (hu : u < 2 ^ 64) (h0 : zm u ≠ 0) : (f_Re_exponent (lN u) - f_Re_gap (lN (zm u))).toInt = zy u := by
  have := zx_b u
  have hg := zg_lt (u := u)
  exact i_subn (d_exp hu) (d_gap h0) (by clear hu; omega) (by clear hu; omega) (by clear hu; omega) (by clear hu; omega)
theorem zy_b (u : Nat) : -1126 ≤ zy u ∧ zy u ≤ 972 := by
  have := zx_b u
  have hg := zg_lt (u := u)
  unfold zy
  omega
theorem z_m1 {u : Nat} (h : zs u ≠ 0) : zm u ≠ 0 := fun z => h (z_m0 z)
/-! products by two digits of 27 bits -/
theorem limbs (a b : Nat) : a * b = (a / 2 ^ 27 * (b / 2 ^ 27) + (a / 2 ^ 27 * (b % 2 ^ 27) + a % 2 ^ 27 * (b / 2 ^ 27) + a % 2 ^ 27 * (b % 2 ^ 27) / 2 ^ 27) / 2 ^ 27) * 2 ^ 54 + (a / 2 ^ 27 * (b % 2 ^ 27) + a % 2 ^ 27 * (b / 2 ^ 27) + a % 2 ^ 27 * (b % 2 ^ 27) / 2 ^ 27) % 2 ^ 27 * 2 ^ 27 + a % 2 ^ 27 * (b % 2 ^ 27) % 2 ^ 27 := by
  have ea := Nat.div_add_mod' a (2 ^ 27)
  have eb := Nat.div_add_mod' b (2 ^ 27)
  generalize a / 2 ^ 27 = A at *
  generalize a % 2 ^ 27 = a0 at *
  generalize b / 2 ^ 27 = B at *
  generalize b % 2 ^ 27 = b0 at *
  have e1 : A * 2 ^ 27 * (B * 2 ^ 27) = A * B * 2 ^ 54 := by rw [Nat.mul_mul_mul_comm]
  have e2 : A * 2 ^ 27 * b0 = A * b0 * 2 ^ 27 := Nat.mul_right_comm _ _ _
  have e3 : a0 * (B * 2 ^ 27) = a0 * B * 2 ^ 27 := (Nat.mul_assoc _ _ _).symm
  rw [← ea, ← eb, Nat.add_mul, Nat.mul_add, Nat.mul_add, e1, e2, e3]
  clear ea eb e1 e2 e3
  generalize A * B = p
  generalize A * b0 = q
  generalize a0 * B = r
  generalize a0 * b0 = s
  omega
theorem low27 {a : Nat} (h : a < 2 ^ 64) : lN a &&& (134217727 : Int64) = lN (a % 2 ^ 27) := yL_and (k := 27) (by decide) h
theorem sh27 {a : Nat} (h : a < 2 ^ 64) : (Int64.toUInt64 (lN a) >>> (Int64.toUInt64 (Int32.toInt64 (27 : Int32)) &&& Int64.toUInt64 63)).toInt64 = lN (a / 2 ^ 27) := yL_shr (y := 27) rfl (by decide) h
