def f_Re_size (a0 : Int64) : Int64 := (a0 &&& (9223372036854775807 : Int64))
theorem c_Re_size {d : Nat} {P : AP} (a0 : Int64) : X m_Re_size (d) 0 (entL 2 [.inr (.inl a0)]) [] P (qL P (f_Re_size a0)) := by
  unfold f_Re_size
  refine X_run 3 (i1 := 3) (L1 := [some (.inr (.inl a0)), none]) (st1 := [.inr (.inl (a0 &&& (9223372036854775807 : Int64)))]) rfl ?_
  exact X_lret rfl rfl ⟨rfl, rfl⟩
def f_Re_isNan (a0 : Int64) : Bool := (cond (cn1 .le (lg_cmp (a0 &&& (9223372036854775807 : Int64)) (9218868437227405312 : Int64))) false true)
theorem c_Re_isNan {d : Nat} {P : AP} (a0 : Int64) : X m_Re_isNan (d) 0 (entL 2 [.inr (.inl a0)]) [] P (qB P (f_Re_isNan a0)) := by
  unfold f_Re_isNan
  refine X_run 6 (i1 := cond (cn1 .le (lg_cmp (a0 &&& (9223372036854775807 : Int64)) (9218868437227405312 : Int64))) 8 6) (L1 := [some (.inr (.inl a0)), none]) (st1 := []) rfl ?_
  refine X_brq (fun hb5 => ?_) (fun hb5 => ?_)
  · refine X_run 1 (i1 := 9) (L1 := [some (.inr (.inl a0)), none]) (st1 := [.inl (0 : Int32)]) rfl ?_
    exact X_zret rfl rfl (b2i_01 false) ⟨rfl, rfl⟩
  · refine X_run 2 (i1 := 9) (L1 := [some (.inr (.inl a0)), none]) (st1 := [.inl (1 : Int32)]) rfl ?_
    exact X_zret rfl rfl (b2i_01 true) ⟨rfl, rfl⟩
def f_Re_plain (a0 : Int64) : Int64 := (cond (cn1 .eq (b2i (f_Re_isNan a0))) a0 (9221120237041090560 : Int64))
theorem plain_eq (a0 : Int64) : f_Re_plain a0 = (cond (cn1 .le (lg_cmp (a0 &&& (9223372036854775807 : Int64)) (9218868437227405312 : Int64))) a0 (9221120237041090560 : Int64)) := by
  unfold f_Re_plain f_Re_isNan
  generalize cn1 .le (lg_cmp (a0 &&& (9223372036854775807 : Int64)) (9218868437227405312 : Int64)) = b
  cases b <;> rfl
theorem c_Re_plain {d : Nat} {P : AP} (a0 : Int64) : X m_Re_plain (d + 1) 0 (entL 2 [.inr (.inl a0)]) [] P (qL P (f_Re_plain a0)) := by
  rw [plain_eq]
  refine X_run 6 (i1 := cond (cn1 .le (lg_cmp (a0 &&& (9223372036854775807 : Int64)) (9218868437227405312 : Int64))) 8 6) (L1 := [some (.inr (.inl a0)), none]) (st1 := []) rfl ?_
  refine X_brq (fun hb5 => ?_) (fun hb5 => ?_)
  · refine X_run 1 (i1 := 9) (L1 := [some (.inr (.inl a0)), none]) (st1 := [.inr (.inl a0)]) rfl ?_
    exact X_lret rfl rfl ⟨rfl, rfl⟩
  · refine X_run 2 (i1 := 9) (L1 := [some (.inr (.inl a0)), none]) (st1 := [.inr (.inl (9221120237041090560 : Int64))]) rfl ?_
    exact X_lret rfl rfl ⟨rfl, rfl⟩
def f_Re_plainFloat (a0 : Int32) : Int32 := (cond (cn2 .le (a0 &&& (2147483647 : Int32)) (2139095040 : Int32)) a0 (2143289344 : Int32))
theorem c_Re_plainFloat {d : Nat} {P : AP} (a0 : Int32) : X m_Re_plainFloat (d) 0 (entL 1 [.inl a0]) [] P (qI P (f_Re_plainFloat a0)) := by
  unfold f_Re_plainFloat
  refine X_run 5 (i1 := cond (cn2 .le (a0 &&& (2147483647 : Int32)) (2139095040 : Int32)) 7 5) (L1 := [some (.inl a0)]) (st1 := []) rfl ?_
  refine X_brq (fun hb4 => ?_) (fun hb4 => ?_)
  · refine X_run 1 (i1 := 8) (L1 := [some (.inl a0)]) (st1 := [.inl a0]) rfl ?_
    exact X_iret rfl rfl ⟨rfl, rfl⟩
  · refine X_run 2 (i1 := 8) (L1 := [some (.inl a0)]) (st1 := [.inl (2143289344 : Int32)]) rfl ?_
    exact X_iret rfl rfl ⟨rfl, rfl⟩
def f_Re_field (a0 : Int64) : Int32 := ((Int64.toInt32 ((Int64.toUInt64 a0 >>> (Int64.toUInt64 (Int32.toInt64 (52 : Int32)) &&& Int64.toUInt64 63)).toInt64)) &&& (2047 : Int32))
theorem c_Re_field {d : Nat} {P : AP} (a0 : Int64) : X m_Re_field (d) 0 (entL 2 [.inr (.inl a0)]) [] P (qI P (f_Re_field a0)) := by
  unfold f_Re_field
  refine X_run 6 (i1 := 6) (L1 := [some (.inr (.inl a0)), none]) (st1 := [.inl ((Int64.toInt32 ((Int64.toUInt64 a0 >>> (Int64.toUInt64 (Int32.toInt64 (52 : Int32)) &&& Int64.toUInt64 63)).toInt64)) &&& (2047 : Int32))]) rfl ?_
  exact X_iret rfl rfl ⟨rfl, rfl⟩
def f_Re_mantissa (a0 : Int64) : Int64 := (cond (cn1 .ne (lg_cmp (a0 &&& (9218868437227405312 : Int64)) (0 : Int64))) ((a0 &&& (4503599627370495 : Int64)) ||| (4503599627370496 : Int64)) (a0 &&& (4503599627370495 : Int64)))
theorem c_Re_mantissa {d : Nat} {P : AP} (a0 : Int64) : X m_Re_mantissa (d) 0 (entL 4 [.inr (.inl a0)]) [] P (qL P (f_Re_mantissa a0)) := by
  unfold f_Re_mantissa
  refine X_run 10 (i1 := cond (cn1 .ne (lg_cmp (a0 &&& (9218868437227405312 : Int64)) (0 : Int64))) 12 10) (L1 := [some (.inr (.inl a0)), none, some (.inr (.inl (a0 &&& (4503599627370495 : Int64)))), none]) (st1 := []) rfl ?_
  refine X_brq (fun hb9 => ?_) (fun hb9 => ?_)
  · refine X_run 3 (i1 := 15) (L1 := [some (.inr (.inl a0)), none, some (.inr (.inl (a0 &&& (4503599627370495 : Int64)))), none]) (st1 := [.inr (.inl ((a0 &&& (4503599627370495 : Int64)) ||| (4503599627370496 : Int64)))]) rfl ?_
    exact X_lret rfl rfl ⟨rfl, rfl⟩
  · refine X_run 2 (i1 := 15) (L1 := [some (.inr (.inl a0)), none, some (.inr (.inl (a0 &&& (4503599627370495 : Int64)))), none]) (st1 := [.inr (.inl (a0 &&& (4503599627370495 : Int64)))]) rfl ?_
    exact X_lret rfl rfl ⟨rfl, rfl⟩
def f_Re_exponent (a0 : Int64) : Int32 := (((if (f_Re_field a0) < (1 : Int32) then (1 : Int32) else (f_Re_field a0)) - (1023 : Int32)) - (52 : Int32))
def t_Re_exponent_12 (w0 : Int32) : Int32 := ((w0 - (1023 : Int32)) - (52 : Int32))
theorem ct_Re_exponent_12 {d : Nat} {P : AP} (w0 : Int32) : X m_Re_exponent (d) 12 [none, none, none] [.inl w0] P (qI P (t_Re_exponent_12 w0)) := by
  unfold t_Re_exponent_12
  refine X_run 4 (i1 := 16) (L1 := [none, none, none]) (st1 := [.inl ((w0 - (1023 : Int32)) - (52 : Int32))]) rfl ?_
  exact X_iret rfl rfl ⟨rfl, rfl⟩
def t_Re_exponent_7 (v2 : Int32) : Int32 := (cond (cn1 .ne v2) (t_Re_exponent_12 v2) (t_Re_exponent_12 (1 : Int32)))
theorem ct_Re_exponent_7 {d : Nat} {P : AP} (v2 : Int32) : X m_Re_exponent (d) 7 [none, none, some (.inl v2)] [] P (qI P (t_Re_exponent_7 v2)) := by
  unfold t_Re_exponent_7
  refine X_run 2 (i1 := cond (cn1 .ne v2) 11 9) (L1 := [none, none, some (.inl v2)]) (st1 := []) rfl ?_
  refine X_brq (fun hb8 => ?_) (fun hb8 => ?_)
  · refine X_run 1 (i1 := 12) (L1 := [none, none, some (.inl v2)]) (st1 := [.inl v2]) rfl ?_
    refine X_mask [true, true, false] ?_
    exact ct_Re_exponent_12 v2
  · refine X_run 2 (i1 := 12) (L1 := [none, none, some (.inl v2)]) (st1 := [.inl (1 : Int32)]) rfl ?_
    refine X_mask [true, true, false] ?_
    exact ct_Re_exponent_12 (1 : Int32)
theorem field_nn (a0 : Int64) : 0 ≤ (f_Re_field a0).toInt := by
  unfold f_Re_field
  obtain ⟨n, -, e⟩ := wb_of32 (Int64.toInt32 ((Int64.toUInt64 a0 >>> (Int64.toUInt64 (Int32.toInt64 (52 : Int32)) &&& Int64.toUInt64 63)).toInt64))
  rw [e, show (2047 : Int32) = nI 2047 from rfl, nx_and, show (2047 : Nat) = 2 ^ 11 - 1 from rfl, Nat.and_two_pow_sub_one_eq_mod, show (nI (n % 2 ^ 11)).toInt = ((n % 2 ^ 11 : Nat) : Int) from Int32.toInt_ofNat_of_lt (Nat.lt_trans (Nat.mod_lt _ (by decide)) (by decide))]
  exact Int.natCast_nonneg _
theorem exponent_eq (a0 : Int64) : f_Re_exponent a0 = t_Re_exponent_7 (f_Re_field a0) := by
  have h := field_nn a0
  unfold f_Re_exponent t_Re_exponent_7 t_Re_exponent_12
  generalize f_Re_field a0 = v at h ⊢
  by_cases e : v = 0
  · subst e
    first | rfl | decide
  · have h1 : ¬ v < (1 : Int32) := by
      rw [Int32.lt_iff_toInt_lt, show ((1 : Int32).toInt) = 1 from rfl]
      intro h2
      have h3 : v.toInt = (0 : Int32).toInt := by
        show v.toInt = 0
        omega
      exact e (Int32.toInt_inj.mp h3)
    have h2 : cn1 .ne v = true := decide_eq_true e
    rw [if_neg h1, h2]
    rfl
theorem c_Re_exponent {d : Nat} {P : AP} (a0 : Int64) : X m_Re_exponent (d + 1) 0 (entL 3 [.inr (.inl a0)]) [] P (qI P (f_Re_exponent a0)) := by
  rw [exponent_eq]
  unfold f_Re_field
  refine X_run 7 (i1 := 7) (L1 := [some (.inr (.inl a0)), none, some (.inl ((Int64.toInt32 ((Int64.toUInt64 a0 >>> (Int64.toUInt64 (Int32.toInt64 (52 : Int32)) &&& Int64.toUInt64 63)).toInt64)) &&& (2047 : Int32)))]) (st1 := []) rfl ?_
  refine X_mask [false, true, true] ?_
  exact ct_Re_exponent_7 ((Int64.toInt32 ((Int64.toUInt64 a0 >>> (Int64.toUInt64 (Int32.toInt64 (52 : Int32)) &&& Int64.toUInt64 63)).toInt64)) &&& (2047 : Int32))
def t_Re_gap_2 : Nat → Int64 → Int32 → Int32
  | 0, _, _ => 0
  | n + 1, v0, v2 => (cond (cn2 .ge v2 (52 : Int32)) v2 (cond (cn1 .ge (lg_cmp (v0 <<< (Int32.toInt64 v2 &&& 63)) (4503599627370496 : Int64))) v2 (t_Re_gap_2 n v0 (v2 + Int32.ofInt (1)))))
theorem ct_Re_gap_2 {d : Nat} {P : AP} : ∀ (n : Nat) (v0 : Int64) (v2 : Int32), 0 ≤ v2.toInt ∧ v2.toInt ≤ 52 ∧ 52 - v2.toInt < n → X m_Re_gap (d) 2 [some (.inr (.inl v0)), none, some (.inl v2)] [] P (qI P (t_Re_gap_2 n v0 v2))
  | 0, v0, v2, hI => by exfalso; omega
  | n + 1, v0, v2, hI => by
    have ih := @ct_Re_gap_2 d P n
    unfold t_Re_gap_2
    refine X_run 3 (i1 := cond (cn2 .ge v2 (52 : Int32)) 13 5) (L1 := [some (.inr (.inl v0)), none, some (.inl v2)]) (st1 := []) rfl ?_
    refine X_brq (fun hb4 => ?_) (fun hb4 => ?_)
    · refine X_run 1 (i1 := 14) (L1 := [some (.inr (.inl v0)), none, some (.inl v2)]) (st1 := [.inl v2]) rfl ?_
      exact X_iret rfl rfl ⟨rfl, rfl⟩
    · refine X_run 6 (i1 := cond (cn1 .ge (lg_cmp (v0 <<< (Int32.toInt64 v2 &&& 63)) (4503599627370496 : Int64))) 13 11) (L1 := [some (.inr (.inl v0)), none, some (.inl v2)]) (st1 := []) rfl ?_
      refine X_brq (fun hb10 => ?_) (fun hb10 => ?_)
      · refine X_run 1 (i1 := 14) (L1 := [some (.inr (.inl v0)), none, some (.inl v2)]) (st1 := [.inl v2]) rfl ?_
        exact X_iret rfl rfl ⟨rfl, rfl⟩
      · refine X_run 2 (i1 := 2) (L1 := [some (.inr (.inl v0)), none, some (.inl (v2 + Int32.ofInt (1)))]) (st1 := []) rfl ?_
        exact ih v0 (v2 + Int32.ofInt (1)) (by have h1 := i_ge_f hb4; have h2 : (52 : Int32).toInt = 52 := (by decide); have h3 := i_add (x := v2) 1 (by omega) (by omega) (by omega) (by omega); omega)
def f_Re_gap (a0 : Int64) : Int32 := (t_Re_gap_2 53 a0 (0 : Int32))
theorem c_Re_gap {d : Nat} {P : AP} (a0 : Int64) : X m_Re_gap (d) 0 (entL 3 [.inr (.inl a0)]) [] P (qI P (f_Re_gap a0)) := by
  unfold f_Re_gap
  refine X_run 2 (i1 := 2) (L1 := [some (.inr (.inl a0)), none, some (.inl (0 : Int32))]) (st1 := []) rfl ?_
  exact ct_Re_gap_2 53 a0 (0 : Int32) (by exact ⟨by decide, by decide, by decide⟩)
def f_Re_movedRight (a0 : Int64) (a1 : Int32) : Int64 := (cond (cn2 .le a1 (62 : Int32)) (cond (cn1 .ne (lg_cmp (a0 &&& (((1 : Int64) <<< (Int32.toInt64 a1 &&& 63)) - (1 : Int64))) (0 : Int64))) (((Int64.toUInt64 a0 >>> (Int64.toUInt64 (Int32.toInt64 a1) &&& Int64.toUInt64 63)).toInt64) ||| (Int32.toInt64 (1 : Int32))) (((Int64.toUInt64 a0 >>> (Int64.toUInt64 (Int32.toInt64 a1) &&& Int64.toUInt64 63)).toInt64) ||| (Int32.toInt64 (0 : Int32)))) (cond (cn1 .ne (lg_cmp a0 (0 : Int64))) (1 : Int64) (0 : Int64)))
theorem c_Re_movedRight {d : Nat} {P : AP} (a0 : Int64) (a1 : Int32) : X m_Re_movedRight (d) 0 (entL 5 [.inr (.inl a0), .inl a1]) [] P (qL P (f_Re_movedRight a0 a1)) := by
  unfold f_Re_movedRight
  refine X_run 3 (i1 := cond (cn2 .le a1 (62 : Int32)) 11 3) (L1 := [some (.inr (.inl a0)), none, some (.inl a1), none, none]) (st1 := []) rfl ?_
  refine X_brq (fun hb2 => ?_) (fun hb2 => ?_)
  · refine X_run 15 (i1 := cond (cn1 .ne (lg_cmp (a0 &&& (((1 : Int64) <<< (Int32.toInt64 a1 &&& 63)) - (1 : Int64))) (0 : Int64))) 28 26) (L1 := [some (.inr (.inl a0)), none, some (.inl a1), some (.inr (.inl (a0 &&& (((1 : Int64) <<< (Int32.toInt64 a1 &&& 63)) - (1 : Int64))))), none]) (st1 := [.inr (.inl ((Int64.toUInt64 a0 >>> (Int64.toUInt64 (Int32.toInt64 a1) &&& Int64.toUInt64 63)).toInt64))]) rfl ?_
    refine X_brq (fun hb25 => ?_) (fun hb25 => ?_)
    · refine X_run 3 (i1 := 31) (L1 := [some (.inr (.inl a0)), none, some (.inl a1), some (.inr (.inl (a0 &&& (((1 : Int64) <<< (Int32.toInt64 a1 &&& 63)) - (1 : Int64))))), none]) (st1 := [.inr (.inl (((Int64.toUInt64 a0 >>> (Int64.toUInt64 (Int32.toInt64 a1) &&& Int64.toUInt64 63)).toInt64) ||| (Int32.toInt64 (1 : Int32))))]) rfl ?_
      exact X_lret rfl rfl ⟨rfl, rfl⟩
    · refine X_run 4 (i1 := 31) (L1 := [some (.inr (.inl a0)), none, some (.inl a1), some (.inr (.inl (a0 &&& (((1 : Int64) <<< (Int32.toInt64 a1 &&& 63)) - (1 : Int64))))), none]) (st1 := [.inr (.inl (((Int64.toUInt64 a0 >>> (Int64.toUInt64 (Int32.toInt64 a1) &&& Int64.toUInt64 63)).toInt64) ||| (Int32.toInt64 (0 : Int32))))]) rfl ?_
      exact X_lret rfl rfl ⟨rfl, rfl⟩
  · refine X_run 4 (i1 := cond (cn1 .ne (lg_cmp a0 (0 : Int64))) 9 7) (L1 := [some (.inr (.inl a0)), none, some (.inl a1), none, none]) (st1 := []) rfl ?_
    refine X_brq (fun hb6 => ?_) (fun hb6 => ?_)
    · refine X_run 1 (i1 := 10) (L1 := [some (.inr (.inl a0)), none, some (.inl a1), none, none]) (st1 := [.inr (.inl (1 : Int64))]) rfl ?_
      exact X_lret rfl rfl ⟨rfl, rfl⟩
    · refine X_run 2 (i1 := 10) (L1 := [some (.inr (.inl a0)), none, some (.inl a1), none, none]) (st1 := [.inr (.inl (0 : Int64))]) rfl ?_
      exact X_lret rfl rfl ⟨rfl, rfl⟩
def f_Re_turned (a0 : Int64) : Int64 := (cond (cn1 .eq (b2i (f_Re_isNan a0))) (a0 ^^^ (-9223372036854775808 : Int64)) (9221120237041090560 : Int64))
theorem c_Re_turned {d : Nat} {P : AP} (a0 : Int64) : X m_Re_turned (d + 1) 0 (entL 2 [.inr (.inl a0)]) [] P (qL P (f_Re_turned a0)) := by
  unfold f_Re_turned
  refine X_run 1 (i1 := 1) (L1 := [some (.inr (.inl a0)), none]) (st1 := [.inr (.inl a0)]) rfl ?_
  refine X_calls m_Re_isNan (As := [.inr (.inl a0)]) (st := []) ok_Re_isNan rfl rfl rfl (Nat.le_of_ble_eq_true rfl) (Nat.le_of_ble_eq_true rfl) (c_Re_isNan (d := d) a0) ?_
  rintro _ _ ⟨rfl, rfl⟩
  show X _ _ 2 [some (.inr (.inl a0)), none] [.inl (b2i (f_Re_isNan a0))] _ _
  refine X_run 1 (i1 := cond (cn1 .eq (b2i (f_Re_isNan a0))) 5 3) (L1 := [some (.inr (.inl a0)), none]) (st1 := []) rfl ?_
  refine X_brq (fun hb2 => ?_) (fun hb2 => ?_)
  · refine X_run 3 (i1 := 8) (L1 := [some (.inr (.inl a0)), none]) (st1 := [.inr (.inl (a0 ^^^ (-9223372036854775808 : Int64)))]) rfl ?_
    exact X_lret rfl rfl ⟨rfl, rfl⟩
  · refine X_run 2 (i1 := 8) (L1 := [some (.inr (.inl a0)), none]) (st1 := [.inr (.inl (9221120237041090560 : Int64))]) rfl ?_
    exact X_lret rfl rfl ⟨rfl, rfl⟩
def f_Re_signOf (a0 : Int64) : Int64 := (cond (cn1 .eq (b2i (f_Re_isNan a0))) (cond (cn1 .ne (lg_cmp (f_Re_size a0) (0 : Int64))) ((a0 &&& (-9223372036854775808 : Int64)) ||| (4607182418800017408 : Int64)) a0) (9221120237041090560 : Int64))
theorem c_Re_signOf {d : Nat} {P : AP} (a0 : Int64) : X m_Re_signOf (d + 1) 0 (entL 2 [.inr (.inl a0)]) [] P (qL P (f_Re_signOf a0)) := by
  unfold f_Re_signOf
  refine X_run 1 (i1 := 1) (L1 := [some (.inr (.inl a0)), none]) (st1 := [.inr (.inl a0)]) rfl ?_
  refine X_calls m_Re_isNan (As := [.inr (.inl a0)]) (st := []) ok_Re_isNan rfl rfl rfl (Nat.le_of_ble_eq_true rfl) (Nat.le_of_ble_eq_true rfl) (c_Re_isNan (d := d) a0) ?_
  rintro _ _ ⟨rfl, rfl⟩
  show X _ _ 2 [some (.inr (.inl a0)), none] [.inl (b2i (f_Re_isNan a0))] _ _
  refine X_run 1 (i1 := cond (cn1 .eq (b2i (f_Re_isNan a0))) 5 3) (L1 := [some (.inr (.inl a0)), none]) (st1 := []) rfl ?_
  refine X_brq (fun hb2 => ?_) (fun hb2 => ?_)
  · refine X_run 1 (i1 := 6) (L1 := [some (.inr (.inl a0)), none]) (st1 := [.inr (.inl a0)]) rfl ?_
    refine X_calls m_Re_size (As := [.inr (.inl a0)]) (st := []) ok_Re_size rfl rfl rfl (Nat.le_of_ble_eq_true rfl) (Nat.le_of_ble_eq_true rfl) (c_Re_size (d := d) a0) ?_
    rintro _ _ ⟨rfl, rfl⟩
    show X _ _ 7 [some (.inr (.inl a0)), none] [.inr (.inl (f_Re_size a0))] _ _
    refine X_run 3 (i1 := cond (cn1 .ne (lg_cmp (f_Re_size a0) (0 : Int64))) 12 10) (L1 := [some (.inr (.inl a0)), none]) (st1 := []) rfl ?_
    refine X_brq (fun hb9 => ?_) (fun hb9 => ?_)
    · refine X_run 5 (i1 := 17) (L1 := [some (.inr (.inl a0)), none]) (st1 := [.inr (.inl ((a0 &&& (-9223372036854775808 : Int64)) ||| (4607182418800017408 : Int64)))]) rfl ?_
      exact X_lret rfl rfl ⟨rfl, rfl⟩
    · refine X_run 2 (i1 := 17) (L1 := [some (.inr (.inl a0)), none]) (st1 := [.inr (.inl a0)]) rfl ?_
      exact X_lret rfl rfl ⟨rfl, rfl⟩
  · refine X_run 2 (i1 := 17) (L1 := [some (.inr (.inl a0)), none]) (st1 := [.inr (.inl (9221120237041090560 : Int64))]) rfl ?_
    exact X_lret rfl rfl ⟨rfl, rfl⟩
def f_Re_rank (a0 : Int64) : Int64 := (cond (cn1 .ge (lg_cmp a0 (0 : Int64))) a0 ((-9223372036854775808 : Int64) - a0))
theorem c_Re_rank {d : Nat} {P : AP} (a0 : Int64) : X m_Re_rank (d) 0 (entL 2 [.inr (.inl a0)]) [] P (qL P (f_Re_rank a0)) := by
  unfold f_Re_rank
  refine X_run 4 (i1 := cond (cn1 .ge (lg_cmp a0 (0 : Int64))) 8 4) (L1 := [some (.inr (.inl a0)), none]) (st1 := []) rfl ?_
  refine X_brq (fun hb3 => ?_) (fun hb3 => ?_)
  · refine X_run 1 (i1 := 9) (L1 := [some (.inr (.inl a0)), none]) (st1 := [.inr (.inl a0)]) rfl ?_
    exact X_lret rfl rfl ⟨rfl, rfl⟩
  · refine X_run 4 (i1 := 9) (L1 := [some (.inr (.inl a0)), none]) (st1 := [.inr (.inl ((-9223372036854775808 : Int64) - a0))]) rfl ?_
    exact X_lret rfl rfl ⟨rfl, rfl⟩
def f_Re_greater (a0 : Int64) (a1 : Int64) : Int64 := (cond (cn1 .ne (b2i (f_Re_isNan a0))) (9221120237041090560 : Int64) (cond (cn1 .eq (b2i (f_Re_isNan a1))) (cond (cn1 .ne (lg_cmp (f_Re_rank a0) (f_Re_rank a1))) (cond (cn1 .le (lg_cmp (f_Re_rank a0) (f_Re_rank a1))) a1 a0) (a0 &&& a1)) (9221120237041090560 : Int64)))
theorem c_Re_greater {d : Nat} {P : AP} (a0 : Int64) (a1 : Int64) : X m_Re_greater (d + 1) 0 (entL 4 [.inr (.inl a0), .inr (.inl a1)]) [] P (qL P (f_Re_greater a0 a1)) := by
  unfold f_Re_greater
  refine X_run 1 (i1 := 1) (L1 := [some (.inr (.inl a0)), none, some (.inr (.inl a1)), none]) (st1 := [.inr (.inl a0)]) rfl ?_
  refine X_calls m_Re_isNan (As := [.inr (.inl a0)]) (st := []) ok_Re_isNan rfl rfl rfl (Nat.le_of_ble_eq_true rfl) (Nat.le_of_ble_eq_true rfl) (c_Re_isNan (d := d) a0) ?_
  rintro _ _ ⟨rfl, rfl⟩
  show X _ _ 2 [some (.inr (.inl a0)), none, some (.inr (.inl a1)), none] [.inl (b2i (f_Re_isNan a0))] _ _
  refine X_run 1 (i1 := cond (cn1 .ne (b2i (f_Re_isNan a0))) 6 3) (L1 := [some (.inr (.inl a0)), none, some (.inr (.inl a1)), none]) (st1 := []) rfl ?_
  refine X_brq (fun hb2 => ?_) (fun hb2 => ?_)
  · refine X_run 1 (i1 := 7) (L1 := [some (.inr (.inl a0)), none, some (.inr (.inl a1)), none]) (st1 := [.inr (.inl (9221120237041090560 : Int64))]) rfl ?_
    exact X_lret rfl rfl ⟨rfl, rfl⟩
  · refine X_run 1 (i1 := 4) (L1 := [some (.inr (.inl a0)), none, some (.inr (.inl a1)), none]) (st1 := [.inr (.inl a1)]) rfl ?_
    refine X_calls m_Re_isNan (As := [.inr (.inl a1)]) (st := []) ok_Re_isNan rfl rfl rfl (Nat.le_of_ble_eq_true rfl) (Nat.le_of_ble_eq_true rfl) (c_Re_isNan (d := d) a1) ?_
    rintro _ _ ⟨rfl, rfl⟩
    show X _ _ 5 [some (.inr (.inl a0)), none, some (.inr (.inl a1)), none] [.inl (b2i (f_Re_isNan a1))] _ _
    refine X_run 1 (i1 := cond (cn1 .eq (b2i (f_Re_isNan a1))) 8 6) (L1 := [some (.inr (.inl a0)), none, some (.inr (.inl a1)), none]) (st1 := []) rfl ?_
    refine X_brq (fun hb5 => ?_) (fun hb5 => ?_)
    · refine X_run 1 (i1 := 9) (L1 := [some (.inr (.inl a0)), none, some (.inr (.inl a1)), none]) (st1 := [.inr (.inl a0)]) rfl ?_
      refine X_calls m_Re_rank (As := [.inr (.inl a0)]) (st := []) ok_Re_rank rfl rfl rfl (Nat.le_of_ble_eq_true rfl) (Nat.le_of_ble_eq_true rfl) (c_Re_rank (d := d) a0) ?_
      rintro _ _ ⟨rfl, rfl⟩
      show X _ _ 10 [some (.inr (.inl a0)), none, some (.inr (.inl a1)), none] [.inr (.inl (f_Re_rank a0))] _ _
      refine X_run 1 (i1 := 11) (L1 := [some (.inr (.inl a0)), none, some (.inr (.inl a1)), none]) (st1 := [.inr (.inl a1), .inr (.inl (f_Re_rank a0))]) rfl ?_
      refine X_calls m_Re_rank (As := [.inr (.inl a1)]) (st := [.inr (.inl (f_Re_rank a0))]) ok_Re_rank rfl rfl rfl (Nat.le_of_ble_eq_true rfl) (Nat.le_of_ble_eq_true rfl) (c_Re_rank (d := d) a1) ?_
      rintro _ _ ⟨rfl, rfl⟩
      show X _ _ 12 [some (.inr (.inl a0)), none, some (.inr (.inl a1)), none] [.inr (.inl (f_Re_rank a1)), .inr (.inl (f_Re_rank a0))] _ _
      refine X_run 2 (i1 := cond (cn1 .ne (lg_cmp (f_Re_rank a0) (f_Re_rank a1))) 18 14) (L1 := [some (.inr (.inl a0)), none, some (.inr (.inl a1)), none]) (st1 := []) rfl ?_
      refine X_brq (fun hb13 => ?_) (fun hb13 => ?_)
      · refine X_run 1 (i1 := 19) (L1 := [some (.inr (.inl a0)), none, some (.inr (.inl a1)), none]) (st1 := [.inr (.inl a0)]) rfl ?_
        refine X_calls m_Re_rank (As := [.inr (.inl a0)]) (st := []) ok_Re_rank rfl rfl rfl (Nat.le_of_ble_eq_true rfl) (Nat.le_of_ble_eq_true rfl) (c_Re_rank (d := d) a0) ?_
        rintro _ _ ⟨rfl, rfl⟩
        show X _ _ 20 [some (.inr (.inl a0)), none, some (.inr (.inl a1)), none] [.inr (.inl (f_Re_rank a0))] _ _
        refine X_run 1 (i1 := 21) (L1 := [some (.inr (.inl a0)), none, some (.inr (.inl a1)), none]) (st1 := [.inr (.inl a1), .inr (.inl (f_Re_rank a0))]) rfl ?_
        refine X_calls m_Re_rank (As := [.inr (.inl a1)]) (st := [.inr (.inl (f_Re_rank a0))]) ok_Re_rank rfl rfl rfl (Nat.le_of_ble_eq_true rfl) (Nat.le_of_ble_eq_true rfl) (c_Re_rank (d := d) a1) ?_
        rintro _ _ ⟨rfl, rfl⟩
        show X _ _ 22 [some (.inr (.inl a0)), none, some (.inr (.inl a1)), none] [.inr (.inl (f_Re_rank a1)), .inr (.inl (f_Re_rank a0))] _ _
        refine X_run 2 (i1 := cond (cn1 .le (lg_cmp (f_Re_rank a0) (f_Re_rank a1))) 26 24) (L1 := [some (.inr (.inl a0)), none, some (.inr (.inl a1)), none]) (st1 := []) rfl ?_
        refine X_brq (fun hb23 => ?_) (fun hb23 => ?_)
        · refine X_run 1 (i1 := 27) (L1 := [some (.inr (.inl a0)), none, some (.inr (.inl a1)), none]) (st1 := [.inr (.inl a1)]) rfl ?_
          exact X_lret rfl rfl ⟨rfl, rfl⟩
        · refine X_run 2 (i1 := 27) (L1 := [some (.inr (.inl a0)), none, some (.inr (.inl a1)), none]) (st1 := [.inr (.inl a0)]) rfl ?_
          exact X_lret rfl rfl ⟨rfl, rfl⟩
      · refine X_run 4 (i1 := 27) (L1 := [some (.inr (.inl a0)), none, some (.inr (.inl a1)), none]) (st1 := [.inr (.inl (a0 &&& a1))]) rfl ?_
        exact X_lret rfl rfl ⟨rfl, rfl⟩
    · refine X_run 1 (i1 := 7) (L1 := [some (.inr (.inl a0)), none, some (.inr (.inl a1)), none]) (st1 := [.inr (.inl (9221120237041090560 : Int64))]) rfl ?_
      exact X_lret rfl rfl ⟨rfl, rfl⟩
def f_Re_lesser (a0 : Int64) (a1 : Int64) : Int64 := (f_Re_turned (f_Re_greater (f_Re_turned a0) (f_Re_turned a1)))
theorem c_Re_lesser {d : Nat} {P : AP} (a0 : Int64) (a1 : Int64) : X m_Re_lesser (d + 2) 0 (entL 4 [.inr (.inl a0), .inr (.inl a1)]) [] P (qL P (f_Re_lesser a0 a1)) := by
  unfold f_Re_lesser
  refine X_run 1 (i1 := 1) (L1 := [some (.inr (.inl a0)), none, some (.inr (.inl a1)), none]) (st1 := [.inr (.inl a0)]) rfl ?_
  refine X_calls m_Re_turned (As := [.inr (.inl a0)]) (st := []) ok_Re_turned rfl rfl rfl (Nat.le_of_ble_eq_true rfl) (Nat.le_of_ble_eq_true rfl) (c_Re_turned (d := d) a0) ?_
  rintro _ _ ⟨rfl, rfl⟩
  show X _ _ 2 [some (.inr (.inl a0)), none, some (.inr (.inl a1)), none] [.inr (.inl (f_Re_turned a0))] _ _
  refine X_run 1 (i1 := 3) (L1 := [some (.inr (.inl a0)), none, some (.inr (.inl a1)), none]) (st1 := [.inr (.inl a1), .inr (.inl (f_Re_turned a0))]) rfl ?_
  refine X_calls m_Re_turned (As := [.inr (.inl a1)]) (st := [.inr (.inl (f_Re_turned a0))]) ok_Re_turned rfl rfl rfl (Nat.le_of_ble_eq_true rfl) (Nat.le_of_ble_eq_true rfl) (c_Re_turned (d := d) a1) ?_
  rintro _ _ ⟨rfl, rfl⟩
  show X _ _ 4 [some (.inr (.inl a0)), none, some (.inr (.inl a1)), none] [.inr (.inl (f_Re_turned a1)), .inr (.inl (f_Re_turned a0))] _ _
  refine X_calls m_Re_greater (As := [.inr (.inl (f_Re_turned a0)), .inr (.inl (f_Re_turned a1))]) (st := []) ok_Re_greater rfl rfl rfl (Nat.le_of_ble_eq_true rfl) (Nat.le_of_ble_eq_true rfl) (c_Re_greater (d := d) (f_Re_turned a0) (f_Re_turned a1)) ?_
  rintro _ _ ⟨rfl, rfl⟩
  show X _ _ 5 [some (.inr (.inl a0)), none, some (.inr (.inl a1)), none] [.inr (.inl (f_Re_greater (f_Re_turned a0) (f_Re_turned a1)))] _ _
  refine X_calls m_Re_turned (As := [.inr (.inl (f_Re_greater (f_Re_turned a0) (f_Re_turned a1)))]) (st := []) ok_Re_turned rfl rfl rfl (Nat.le_of_ble_eq_true rfl) (Nat.le_of_ble_eq_true rfl) (c_Re_turned (d := d) (f_Re_greater (f_Re_turned a0) (f_Re_turned a1))) ?_
  rintro _ _ ⟨rfl, rfl⟩
  show X _ _ 6 [some (.inr (.inl a0)), none, some (.inr (.inl a1)), none] [.inr (.inl (f_Re_turned (f_Re_greater (f_Re_turned a0) (f_Re_turned a1))))] _ _
  exact X_lret rfl rfl ⟨rfl, rfl⟩
def f_Re_withSign (a0 : Int64) (a1 : Int64) : Int64 := (cond (cn1 .eq (b2i (f_Re_isNan a0))) (cond (cn1 .eq (b2i (f_Re_isNan a1))) ((f_Re_size a0) ||| (a1 &&& (-9223372036854775808 : Int64))) (f_Re_size a0)) (9221120237041090560 : Int64))
theorem c_Re_withSign {d : Nat} {P : AP} (a0 : Int64) (a1 : Int64) : X m_Re_withSign (d + 1) 0 (entL 4 [.inr (.inl a0), .inr (.inl a1)]) [] P (qL P (f_Re_withSign a0 a1)) := by
  unfold f_Re_withSign
  refine X_run 1 (i1 := 1) (L1 := [some (.inr (.inl a0)), none, some (.inr (.inl a1)), none]) (st1 := [.inr (.inl a0)]) rfl ?_
  refine X_calls m_Re_isNan (As := [.inr (.inl a0)]) (st := []) ok_Re_isNan rfl rfl rfl (Nat.le_of_ble_eq_true rfl) (Nat.le_of_ble_eq_true rfl) (c_Re_isNan (d := d) a0) ?_
  rintro _ _ ⟨rfl, rfl⟩
  show X _ _ 2 [some (.inr (.inl a0)), none, some (.inr (.inl a1)), none] [.inl (b2i (f_Re_isNan a0))] _ _
  refine X_run 1 (i1 := cond (cn1 .eq (b2i (f_Re_isNan a0))) 5 3) (L1 := [some (.inr (.inl a0)), none, some (.inr (.inl a1)), none]) (st1 := []) rfl ?_
  refine X_brq (fun hb2 => ?_) (fun hb2 => ?_)
  · refine X_run 1 (i1 := 6) (L1 := [some (.inr (.inl a0)), none, some (.inr (.inl a1)), none]) (st1 := [.inr (.inl a1)]) rfl ?_
    refine X_calls m_Re_isNan (As := [.inr (.inl a1)]) (st := []) ok_Re_isNan rfl rfl rfl (Nat.le_of_ble_eq_true rfl) (Nat.le_of_ble_eq_true rfl) (c_Re_isNan (d := d) a1) ?_
    rintro _ _ ⟨rfl, rfl⟩
    show X _ _ 7 [some (.inr (.inl a0)), none, some (.inr (.inl a1)), none] [.inl (b2i (f_Re_isNan a1))] _ _
    refine X_run 1 (i1 := cond (cn1 .eq (b2i (f_Re_isNan a1))) 11 8) (L1 := [some (.inr (.inl a0)), none, some (.inr (.inl a1)), none]) (st1 := []) rfl ?_
    refine X_brq (fun hb7 => ?_) (fun hb7 => ?_)
    · refine X_run 1 (i1 := 12) (L1 := [some (.inr (.inl a0)), none, some (.inr (.inl a1)), none]) (st1 := [.inr (.inl a0)]) rfl ?_
      refine X_calls m_Re_size (As := [.inr (.inl a0)]) (st := []) ok_Re_size rfl rfl rfl (Nat.le_of_ble_eq_true rfl) (Nat.le_of_ble_eq_true rfl) (c_Re_size (d := d) a0) ?_
      rintro _ _ ⟨rfl, rfl⟩
      show X _ _ 13 [some (.inr (.inl a0)), none, some (.inr (.inl a1)), none] [.inr (.inl (f_Re_size a0))] _ _
      refine X_run 4 (i1 := 17) (L1 := [some (.inr (.inl a0)), none, some (.inr (.inl a1)), none]) (st1 := [.inr (.inl ((f_Re_size a0) ||| (a1 &&& (-9223372036854775808 : Int64))))]) rfl ?_
      exact X_lret rfl rfl ⟨rfl, rfl⟩
    · refine X_run 1 (i1 := 9) (L1 := [some (.inr (.inl a0)), none, some (.inr (.inl a1)), none]) (st1 := [.inr (.inl a0)]) rfl ?_
      refine X_calls m_Re_size (As := [.inr (.inl a0)]) (st := []) ok_Re_size rfl rfl rfl (Nat.le_of_ble_eq_true rfl) (Nat.le_of_ble_eq_true rfl) (c_Re_size (d := d) a0) ?_
      rintro _ _ ⟨rfl, rfl⟩
      show X _ _ 10 [some (.inr (.inl a0)), none, some (.inr (.inl a1)), none] [.inr (.inl (f_Re_size a0))] _ _
      refine X_run 1 (i1 := 17) (L1 := [some (.inr (.inl a0)), none, some (.inr (.inl a1)), none]) (st1 := [.inr (.inl (f_Re_size a0))]) rfl ?_
      exact X_lret rfl rfl ⟨rfl, rfl⟩
  · refine X_run 1 (i1 := 4) (L1 := [some (.inr (.inl a0)), none, some (.inr (.inl a1)), none]) (st1 := [.inr (.inl (9221120237041090560 : Int64))]) rfl ?_
    exact X_lret rfl rfl ⟨rfl, rfl⟩
def t_Re_above_7 (v0 : Int64) : Int64 := (f_Re_plain v0)
theorem ct_Re_above_7 {d : Nat} {P : AP} (v0 : Int64) : X m_Re_above (d + 2) 7 [some (.inr (.inl v0)), none] [] P (qL P (t_Re_above_7 v0)) := by
  unfold t_Re_above_7
  refine X_run 1 (i1 := 8) (L1 := [some (.inr (.inl v0)), none]) (st1 := [.inr (.inl v0)]) rfl ?_
  refine X_calls m_Re_plain (As := [.inr (.inl v0)]) (st := []) ok_Re_plain rfl rfl rfl (Nat.le_of_ble_eq_true rfl) (Nat.le_of_ble_eq_true rfl) (c_Re_plain (d := d) v0) ?_
  rintro _ _ ⟨rfl, rfl⟩
  show X _ _ 9 [some (.inr (.inl v0)), none] [.inr (.inl (f_Re_plain v0))] _ _
  exact X_lret rfl rfl ⟨rfl, rfl⟩
def f_Re_above (a0 : Int64) : Int64 := (cond (cn1 .ne (b2i (f_Re_isNan a0))) (t_Re_above_7 a0) (cond (cn1 .ne (lg_cmp a0 (9218868437227405312 : Int64))) (cond (cn1 .ne (lg_cmp (f_Re_size a0) (0 : Int64))) (cond (cn1 .ge (lg_cmp a0 (0 : Int64))) (a0 + (1 : Int64)) (a0 - (1 : Int64))) (1 : Int64)) (t_Re_above_7 a0)))
theorem c_Re_above {d : Nat} {P : AP} (a0 : Int64) : X m_Re_above (d + 2) 0 (entL 2 [.inr (.inl a0)]) [] P (qL P (f_Re_above a0)) := by
  unfold f_Re_above
  refine X_run 1 (i1 := 1) (L1 := [some (.inr (.inl a0)), none]) (st1 := [.inr (.inl a0)]) rfl ?_
  refine X_calls m_Re_isNan (As := [.inr (.inl a0)]) (st := []) ok_Re_isNan rfl rfl rfl (Nat.le_of_ble_eq_true rfl) (Nat.le_of_ble_eq_true rfl) (c_Re_isNan (d := d + 1) a0) ?_
  rintro _ _ ⟨rfl, rfl⟩
  show X _ _ 2 [some (.inr (.inl a0)), none] [.inl (b2i (f_Re_isNan a0))] _ _
  refine X_run 1 (i1 := cond (cn1 .ne (b2i (f_Re_isNan a0))) 7 3) (L1 := [some (.inr (.inl a0)), none]) (st1 := []) rfl ?_
  refine X_brq (fun hb2 => ?_) (fun hb2 => ?_)
  · exact ct_Re_above_7 a0
  · refine X_run 4 (i1 := cond (cn1 .ne (lg_cmp a0 (9218868437227405312 : Int64))) 10 7) (L1 := [some (.inr (.inl a0)), none]) (st1 := []) rfl ?_
    refine X_brq (fun hb6 => ?_) (fun hb6 => ?_)
    · refine X_run 1 (i1 := 11) (L1 := [some (.inr (.inl a0)), none]) (st1 := [.inr (.inl a0)]) rfl ?_
      refine X_calls m_Re_size (As := [.inr (.inl a0)]) (st := []) ok_Re_size rfl rfl rfl (Nat.le_of_ble_eq_true rfl) (Nat.le_of_ble_eq_true rfl) (c_Re_size (d := d + 1) a0) ?_
      rintro _ _ ⟨rfl, rfl⟩
      show X _ _ 12 [some (.inr (.inl a0)), none] [.inr (.inl (f_Re_size a0))] _ _
      refine X_run 3 (i1 := cond (cn1 .ne (lg_cmp (f_Re_size a0) (0 : Int64))) 17 15) (L1 := [some (.inr (.inl a0)), none]) (st1 := []) rfl ?_
      refine X_brq (fun hb14 => ?_) (fun hb14 => ?_)
      · refine X_run 4 (i1 := cond (cn1 .ge (lg_cmp a0 (0 : Int64))) 25 21) (L1 := [some (.inr (.inl a0)), none]) (st1 := []) rfl ?_
        refine X_brq (fun hb20 => ?_) (fun hb20 => ?_)
        · refine X_run 3 (i1 := 28) (L1 := [some (.inr (.inl a0)), none]) (st1 := [.inr (.inl (a0 + (1 : Int64)))]) rfl ?_
          exact X_lret rfl rfl ⟨rfl, rfl⟩
        · refine X_run 4 (i1 := 28) (L1 := [some (.inr (.inl a0)), none]) (st1 := [.inr (.inl (a0 - (1 : Int64)))]) rfl ?_
          exact X_lret rfl rfl ⟨rfl, rfl⟩
      · refine X_run 1 (i1 := 16) (L1 := [some (.inr (.inl a0)), none]) (st1 := [.inr (.inl (1 : Int64))]) rfl ?_
        exact X_lret rfl rfl ⟨rfl, rfl⟩
    · exact ct_Re_above_7 a0
def f_Re_step (a0 : Int64) : Int64 := (cond (cn1 .lt (lg_cmp (f_Re_size a0) (9218868437227405312 : Int64))) (cond (cn2 .le (if (f_Re_field a0) < (1 : Int32) then (1 : Int32) else (f_Re_field a0)) (52 : Int32)) ((1 : Int64) <<< (Int32.toInt64 ((if (f_Re_field a0) < (1 : Int32) then (1 : Int32) else (f_Re_field a0)) - (1 : Int32)) &&& 63)) ((Int32.toInt64 ((if (f_Re_field a0) < (1 : Int32) then (1 : Int32) else (f_Re_field a0)) - (52 : Int32))) <<< (Int32.toInt64 (52 : Int32) &&& 63))) (f_Re_plain (f_Re_size a0)))
theorem c_Re_step {d : Nat} {P : AP} (a0 : Int64) : X m_Re_step (d + 2) 0 (entL 3 [.inr (.inl a0)]) [] P (qL P (f_Re_step a0)) := by
  unfold f_Re_step
  refine X_run 1 (i1 := 1) (L1 := [some (.inr (.inl a0)), none, none]) (st1 := [.inr (.inl a0)]) rfl ?_
  refine X_calls m_Re_size (As := [.inr (.inl a0)]) (st := []) ok_Re_size rfl rfl rfl (Nat.le_of_ble_eq_true rfl) (Nat.le_of_ble_eq_true rfl) (c_Re_size (d := d + 1) a0) ?_
  rintro _ _ ⟨rfl, rfl⟩
  show X _ _ 2 [some (.inr (.inl a0)), none, none] [.inr (.inl (f_Re_size a0))] _ _
  refine X_run 3 (i1 := cond (cn1 .lt (lg_cmp (f_Re_size a0) (9218868437227405312 : Int64))) 9 5) (L1 := [some (.inr (.inl a0)), none, none]) (st1 := []) rfl ?_
  refine X_brq (fun hb4 => ?_) (fun hb4 => ?_)
  · refine X_run 1 (i1 := 10) (L1 := [some (.inr (.inl a0)), none, none]) (st1 := [.inr (.inl a0)]) rfl ?_
    refine X_calls m_Re_field (As := [.inr (.inl a0)]) (st := []) ok_Re_field rfl rfl rfl (Nat.le_of_ble_eq_true rfl) (Nat.le_of_ble_eq_true rfl) (c_Re_field (d := d + 1) a0) ?_
    rintro _ _ ⟨rfl, rfl⟩
    show X _ _ 11 [some (.inr (.inl a0)), none, none] [.inl (f_Re_field a0)] _ _
    refine X_run 1 (i1 := 12) (L1 := [some (.inr (.inl a0)), none, none]) (st1 := [.inl (1 : Int32), .inl (f_Re_field a0)]) rfl ?_
    refine X_mmax rfl (Nat.le_of_ble_eq_true rfl) ?_
    refine X_run 4 (i1 := cond (cn2 .le (if (f_Re_field a0) < (1 : Int32) then (1 : Int32) else (f_Re_field a0)) (52 : Int32)) 24 17) (L1 := [some (.inr (.inl a0)), none, some (.inl (if (f_Re_field a0) < (1 : Int32) then (1 : Int32) else (f_Re_field a0)))]) (st1 := []) rfl ?_
    refine X_brq (fun hb16 => ?_) (fun hb16 => ?_)
    · refine X_run 5 (i1 := 29) (L1 := [some (.inr (.inl a0)), none, some (.inl (if (f_Re_field a0) < (1 : Int32) then (1 : Int32) else (f_Re_field a0)))]) (st1 := [.inr (.inl ((1 : Int64) <<< (Int32.toInt64 ((if (f_Re_field a0) < (1 : Int32) then (1 : Int32) else (f_Re_field a0)) - (1 : Int32)) &&& 63)))]) rfl ?_
      exact X_lret rfl rfl ⟨rfl, rfl⟩
    · refine X_run 7 (i1 := 29) (L1 := [some (.inr (.inl a0)), none, some (.inl (if (f_Re_field a0) < (1 : Int32) then (1 : Int32) else (f_Re_field a0)))]) (st1 := [.inr (.inl ((Int32.toInt64 ((if (f_Re_field a0) < (1 : Int32) then (1 : Int32) else (f_Re_field a0)) - (52 : Int32))) <<< (Int32.toInt64 (52 : Int32) &&& 63)))]) rfl ?_
      exact X_lret rfl rfl ⟨rfl, rfl⟩
  · refine X_run 1 (i1 := 6) (L1 := [some (.inr (.inl a0)), none, none]) (st1 := [.inr (.inl a0)]) rfl ?_
    refine X_calls m_Re_size (As := [.inr (.inl a0)]) (st := []) ok_Re_size rfl rfl rfl (Nat.le_of_ble_eq_true rfl) (Nat.le_of_ble_eq_true rfl) (c_Re_size (d := d + 1) a0) ?_
    rintro _ _ ⟨rfl, rfl⟩
    show X _ _ 7 [some (.inr (.inl a0)), none, none] [.inr (.inl (f_Re_size a0))] _ _
    refine X_calls m_Re_plain (As := [.inr (.inl (f_Re_size a0))]) (st := []) ok_Re_plain rfl rfl rfl (Nat.le_of_ble_eq_true rfl) (Nat.le_of_ble_eq_true rfl) (c_Re_plain (d := d) (f_Re_size a0)) ?_
    rintro _ _ ⟨rfl, rfl⟩
    show X _ _ 8 [some (.inr (.inl a0)), none, none] [.inr (.inl (f_Re_plain (f_Re_size a0)))] _ _
    exact X_lret rfl rfl ⟨rfl, rfl⟩
def t_Re_toInt_30 (v0 : Int64) (v3 : Int32) : Int32 := (cond (cn1 .ge (lg_cmp v0 (0 : Int64))) v3 (-v3))
theorem ct_Re_toInt_30 {d : Nat} {P : AP} (v0 : Int64) (v3 : Int32) : X m_Re_toInt (d + 1) 30 [some (.inr (.inl v0)), none, none, some (.inl v3)] [] P (qI P (t_Re_toInt_30 v0 v3)) := by
  unfold t_Re_toInt_30
  refine X_run 4 (i1 := cond (cn1 .ge (lg_cmp v0 (0 : Int64))) 37 34) (L1 := [some (.inr (.inl v0)), none, none, some (.inl v3)]) (st1 := []) rfl ?_
  refine X_brq (fun hb33 => ?_) (fun hb33 => ?_)
  · refine X_run 1 (i1 := 38) (L1 := [some (.inr (.inl v0)), none, none, some (.inl v3)]) (st1 := [.inl v3]) rfl ?_
    exact X_iret rfl rfl ⟨rfl, rfl⟩
  · refine X_run 3 (i1 := 38) (L1 := [some (.inr (.inl v0)), none, none, some (.inl v3)]) (st1 := [.inl (-v3)]) rfl ?_
    exact X_iret rfl rfl ⟨rfl, rfl⟩
def f_Re_toInt (a0 : Int64) : Int32 := (cond (cn1 .ne (b2i (f_Re_isNan a0))) (0 : Int32) (cond (cn2 .ge (f_Re_field a0) (1023 : Int32)) (cond (cn2 .lt (f_Re_field a0) (1054 : Int32)) (t_Re_toInt_30 a0 (Int64.toInt32 ((Int64.toUInt64 (f_Re_mantissa a0) >>> (Int64.toUInt64 (Int32.toInt64 ((1075 : Int32) - (f_Re_field a0))) &&& Int64.toUInt64 63)).toInt64))) (cond (cn1 .ge (lg_cmp a0 (0 : Int64))) (2147483647 : Int32) (-2147483648 : Int32))) (0 : Int32)))
theorem c_Re_toInt {d : Nat} {P : AP} (a0 : Int64) : X m_Re_toInt (d + 1) 0 (entL 4 [.inr (.inl a0)]) [] P (qI P (f_Re_toInt a0)) := by
  unfold f_Re_toInt
  refine X_run 1 (i1 := 1) (L1 := [some (.inr (.inl a0)), none, none, none]) (st1 := [.inr (.inl a0)]) rfl ?_
  refine X_calls m_Re_field (As := [.inr (.inl a0)]) (st := []) ok_Re_field rfl rfl rfl (Nat.le_of_ble_eq_true rfl) (Nat.le_of_ble_eq_true rfl) (c_Re_field (d := d) a0) ?_
  rintro _ _ ⟨rfl, rfl⟩
  show X _ _ 2 [some (.inr (.inl a0)), none, none, none] [.inl (f_Re_field a0)] _ _
  refine X_run 2 (i1 := 4) (L1 := [some (.inr (.inl a0)), none, some (.inl (f_Re_field a0)), none]) (st1 := [.inr (.inl a0)]) rfl ?_
  refine X_calls m_Re_isNan (As := [.inr (.inl a0)]) (st := []) ok_Re_isNan rfl rfl rfl (Nat.le_of_ble_eq_true rfl) (Nat.le_of_ble_eq_true rfl) (c_Re_isNan (d := d) a0) ?_
  rintro _ _ ⟨rfl, rfl⟩
  show X _ _ 5 [some (.inr (.inl a0)), none, some (.inl (f_Re_field a0)), none] [.inl (b2i (f_Re_isNan a0))] _ _
  refine X_run 1 (i1 := cond (cn1 .ne (b2i (f_Re_isNan a0))) 9 6) (L1 := [some (.inr (.inl a0)), none, some (.inl (f_Re_field a0)), none]) (st1 := []) rfl ?_
  refine X_brq (fun hb5 => ?_) (fun hb5 => ?_)
  · refine X_run 1 (i1 := 10) (L1 := [some (.inr (.inl a0)), none, some (.inl (f_Re_field a0)), none]) (st1 := [.inl (0 : Int32)]) rfl ?_
    exact X_iret rfl rfl ⟨rfl, rfl⟩
  · refine X_run 3 (i1 := cond (cn2 .ge (f_Re_field a0) (1023 : Int32)) 11 9) (L1 := [some (.inr (.inl a0)), none, some (.inl (f_Re_field a0)), none]) (st1 := []) rfl ?_
    refine X_brq (fun hb8 => ?_) (fun hb8 => ?_)
    · refine X_run 3 (i1 := cond (cn2 .lt (f_Re_field a0) (1054 : Int32)) 22 14) (L1 := [some (.inr (.inl a0)), none, some (.inl (f_Re_field a0)), none]) (st1 := []) rfl ?_
      refine X_brq (fun hb13 => ?_) (fun hb13 => ?_)
      · refine X_run 1 (i1 := 23) (L1 := [some (.inr (.inl a0)), none, some (.inl (f_Re_field a0)), none]) (st1 := [.inr (.inl a0)]) rfl ?_
        refine X_calls m_Re_mantissa (As := [.inr (.inl a0)]) (st := []) ok_Re_mantissa rfl rfl rfl (Nat.le_of_ble_eq_true rfl) (Nat.le_of_ble_eq_true rfl) (c_Re_mantissa (d := d) a0) ?_
        rintro _ _ ⟨rfl, rfl⟩
        show X _ _ 24 [some (.inr (.inl a0)), none, some (.inl (f_Re_field a0)), none] [.inr (.inl (f_Re_mantissa a0))] _ _
        refine X_run 6 (i1 := 30) (L1 := [some (.inr (.inl a0)), none, some (.inl (f_Re_field a0)), some (.inl (Int64.toInt32 ((Int64.toUInt64 (f_Re_mantissa a0) >>> (Int64.toUInt64 (Int32.toInt64 ((1075 : Int32) - (f_Re_field a0))) &&& Int64.toUInt64 63)).toInt64)))]) (st1 := []) rfl ?_
        refine X_mask [true, true, false, true] ?_
        exact ct_Re_toInt_30 a0 (Int64.toInt32 ((Int64.toUInt64 (f_Re_mantissa a0) >>> (Int64.toUInt64 (Int32.toInt64 ((1075 : Int32) - (f_Re_field a0))) &&& Int64.toUInt64 63)).toInt64))
      · refine X_run 4 (i1 := cond (cn1 .ge (lg_cmp a0 (0 : Int64))) 20 18) (L1 := [some (.inr (.inl a0)), none, some (.inl (f_Re_field a0)), none]) (st1 := []) rfl ?_
        refine X_brq (fun hb17 => ?_) (fun hb17 => ?_)
        · refine X_run 1 (i1 := 21) (L1 := [some (.inr (.inl a0)), none, some (.inl (f_Re_field a0)), none]) (st1 := [.inl (2147483647 : Int32)]) rfl ?_
          exact X_iret rfl rfl ⟨rfl, rfl⟩
        · refine X_run 2 (i1 := 21) (L1 := [some (.inr (.inl a0)), none, some (.inl (f_Re_field a0)), none]) (st1 := [.inl (-2147483648 : Int32)]) rfl ?_
          exact X_iret rfl rfl ⟨rfl, rfl⟩
    · refine X_run 1 (i1 := 10) (L1 := [some (.inr (.inl a0)), none, some (.inl (f_Re_field a0)), none]) (st1 := [.inl (0 : Int32)]) rfl ?_
      exact X_iret rfl rfl ⟨rfl, rfl⟩
def t_Re_whole_100 (v6 : Int32) (v7 : Int64) (v9 : Int64) (v11 : Int64) : Int64 := (cond (cn1 .eq v6) v11 (cond (cn1 .eq (lg_cmp v9 (0 : Int64))) v11 (v11 + v7)))
theorem ct_Re_whole_100 {d : Nat} {P : AP} (v6 : Int32) (v7 : Int64) (v9 : Int64) (v11 : Int64) : X m_Re_whole (d + 2) 100 [none, none, none, none, none, none, some (.inl v6), some (.inr (.inl v7)), none, some (.inr (.inl v9)), none, some (.inr (.inl v11)), none] [] P (qL P (t_Re_whole_100 v6 v7 v9 v11)) := by
  unfold t_Re_whole_100
  refine X_run 2 (i1 := cond (cn1 .eq v6) 110 102) (L1 := [none, none, none, none, none, none, some (.inl v6), some (.inr (.inl v7)), none, some (.inr (.inl v9)), none, some (.inr (.inl v11)), none]) (st1 := []) rfl ?_
  refine X_brq (fun hb101 => ?_) (fun hb101 => ?_)
  · refine X_run 1 (i1 := 111) (L1 := [none, none, none, none, none, none, some (.inl v6), some (.inr (.inl v7)), none, some (.inr (.inl v9)), none, some (.inr (.inl v11)), none]) (st1 := [.inr (.inl v11)]) rfl ?_
    exact X_lret rfl rfl ⟨rfl, rfl⟩
  · refine X_run 4 (i1 := cond (cn1 .eq (lg_cmp v9 (0 : Int64))) 110 106) (L1 := [none, none, none, none, none, none, some (.inl v6), some (.inr (.inl v7)), none, some (.inr (.inl v9)), none, some (.inr (.inl v11)), none]) (st1 := []) rfl ?_
    refine X_brq (fun hb105 => ?_) (fun hb105 => ?_)
    · refine X_run 1 (i1 := 111) (L1 := [none, none, none, none, none, none, some (.inl v6), some (.inr (.inl v7)), none, some (.inr (.inl v9)), none, some (.inr (.inl v11)), none]) (st1 := [.inr (.inl v11)]) rfl ?_
      exact X_lret rfl rfl ⟨rfl, rfl⟩
    · refine X_run 4 (i1 := 111) (L1 := [none, none, none, none, none, none, some (.inl v6), some (.inr (.inl v7)), none, some (.inr (.inl v9)), none, some (.inr (.inl v11)), none]) (st1 := [.inr (.inl (v11 + v7))]) rfl ?_
      exact X_lret rfl rfl ⟨rfl, rfl⟩
def t_Re_whole_99 (v7 : Int64) (v9 : Int64) (v11 : Int64) (w0 : Int32) : Int64 := (t_Re_whole_100 w0 v7 v9 v11)
theorem ct_Re_whole_99 {d : Nat} {P : AP} (v7 : Int64) (v9 : Int64) (v11 : Int64) (w0 : Int32) : X m_Re_whole (d + 2) 99 [none, none, none, none, none, none, none, some (.inr (.inl v7)), none, some (.inr (.inl v9)), none, some (.inr (.inl v11)), none] [.inl w0] P (qL P (t_Re_whole_99 v7 v9 v11 w0)) := by
  unfold t_Re_whole_99
  refine X_run 1 (i1 := 100) (L1 := [none, none, none, none, none, none, some (.inl w0), some (.inr (.inl v7)), none, some (.inr (.inl v9)), none, some (.inr (.inl v11)), none]) (st1 := []) rfl ?_
  exact ct_Re_whole_100 w0 v7 v9 v11
def t_Re_whole_98 (v7 : Int64) (v9 : Int64) (v11 : Int64) : Int64 := (t_Re_whole_99 v7 v9 v11 (0 : Int32))
theorem ct_Re_whole_98 {d : Nat} {P : AP} (v7 : Int64) (v9 : Int64) (v11 : Int64) : X m_Re_whole (d + 2) 98 [none, none, none, none, none, none, none, some (.inr (.inl v7)), none, some (.inr (.inl v9)), none, some (.inr (.inl v11)), none] [] P (qL P (t_Re_whole_98 v7 v9 v11)) := by
  unfold t_Re_whole_98
  refine X_run 1 (i1 := 99) (L1 := [none, none, none, none, none, none, none, some (.inr (.inl v7)), none, some (.inr (.inl v9)), none, some (.inr (.inl v11)), none]) (st1 := [.inl (0 : Int32)]) rfl ?_
  exact ct_Re_whole_99 v7 v9 v11 (0 : Int32)
def t_Re_whole_96 (v7 : Int64) (v9 : Int64) (v11 : Int64) : Int64 := (t_Re_whole_99 v7 v9 v11 (1 : Int32))
theorem ct_Re_whole_96 {d : Nat} {P : AP} (v7 : Int64) (v9 : Int64) (v11 : Int64) : X m_Re_whole (d + 2) 96 [none, none, none, none, none, none, none, some (.inr (.inl v7)), none, some (.inr (.inl v9)), none, some (.inr (.inl v11)), none] [] P (qL P (t_Re_whole_96 v7 v9 v11)) := by
  unfold t_Re_whole_96
  refine X_run 2 (i1 := 99) (L1 := [none, none, none, none, none, none, none, some (.inr (.inl v7)), none, some (.inr (.inl v9)), none, some (.inr (.inl v11)), none]) (st1 := [.inl (1 : Int32)]) rfl ?_
  exact ct_Re_whole_99 v7 v9 v11 (1 : Int32)
def t_Re_whole_53 (v4 : Int64) : Int64 := (v4 ||| (4607182418800017408 : Int64))
theorem ct_Re_whole_53 {d : Nat} {P : AP} (v4 : Int64) : X m_Re_whole (d + 2) 53 [none, none, none, none, some (.inr (.inl v4)), none, none, none, none, none, none, none, none] [] P (qL P (t_Re_whole_53 v4)) := by
  unfold t_Re_whole_53
  refine X_run 4 (i1 := 58) (L1 := [none, none, none, none, some (.inr (.inl v4)), none, none, none, none, none, none, none, none]) (st1 := [.inr (.inl (v4 ||| (4607182418800017408 : Int64)))]) rfl ?_
  exact X_lret rfl rfl ⟨rfl, rfl⟩
def t_Re_whole_37 (v1 : Int64) : Int64 := (f_Re_plain v1)
theorem ct_Re_whole_37 {d : Nat} {P : AP} (v1 : Int64) : X m_Re_whole (d + 2) 37 [none, some (.inr (.inl v1)), none, none, none, none, none, none, none, none, none, none, none] [] P (qL P (t_Re_whole_37 v1)) := by
  unfold t_Re_whole_37
  refine X_run 1 (i1 := 38) (L1 := [none, some (.inr (.inl v1)), none, none, none, none, none, none, none, none, none, none, none]) (st1 := [.inr (.inl v1)]) rfl ?_
  refine X_calls m_Re_plain (As := [.inr (.inl v1)]) (st := []) ok_Re_plain rfl rfl rfl (Nat.le_of_ble_eq_true rfl) (Nat.le_of_ble_eq_true rfl) (c_Re_plain (d := d) v1) ?_
  rintro _ _ ⟨rfl, rfl⟩
  show X _ _ 39 [none, some (.inr (.inl v1)), none, none, none, none, none, none, none, none, none, none, none] [.inr (.inl (f_Re_plain v1))] _ _
  exact X_lret rfl rfl ⟨rfl, rfl⟩
def t_Re_whole_28 (v0 : Int32) (v1 : Int64) (v3 : Int32) (v4 : Int64) (w0 : Int32) : Int64 := (cond (cn1 .eq (lg_cmp (f_Re_size v1) (0 : Int64))) (t_Re_whole_37 v1) (cond (cn2 .lt v3 (1075 : Int32)) (cond (cn2 .ge v3 (1023 : Int32)) (cond (cn2 .ne v0 (3 : Int32)) (t_Re_whole_100 w0 ((1 : Int64) <<< (Int32.toInt64 ((1075 : Int32) - v3) &&& 63)) (v1 &&& (((1 : Int64) <<< (Int32.toInt64 ((1075 : Int32) - v3) &&& 63)) - (1 : Int64))) (v1 - (v1 &&& (((1 : Int64) <<< (Int32.toInt64 ((1075 : Int32) - v3) &&& 63)) - (1 : Int64))))) (cond (cn1 .gt (lg_cmp (v1 &&& (((1 : Int64) <<< (Int32.toInt64 ((1075 : Int32) - v3) &&& 63)) - (1 : Int64))) (((1 : Int64) <<< (Int32.toInt64 ((1075 : Int32) - v3) &&& 63)) / (2 : Int64)))) (t_Re_whole_96 ((1 : Int64) <<< (Int32.toInt64 ((1075 : Int32) - v3) &&& 63)) (v1 &&& (((1 : Int64) <<< (Int32.toInt64 ((1075 : Int32) - v3) &&& 63)) - (1 : Int64))) (v1 - (v1 &&& (((1 : Int64) <<< (Int32.toInt64 ((1075 : Int32) - v3) &&& 63)) - (1 : Int64))))) (cond (cn1 .ne (lg_cmp (v1 &&& (((1 : Int64) <<< (Int32.toInt64 ((1075 : Int32) - v3) &&& 63)) - (1 : Int64))) (((1 : Int64) <<< (Int32.toInt64 ((1075 : Int32) - v3) &&& 63)) / (2 : Int64)))) (t_Re_whole_98 ((1 : Int64) <<< (Int32.toInt64 ((1075 : Int32) - v3) &&& 63)) (v1 &&& (((1 : Int64) <<< (Int32.toInt64 ((1075 : Int32) - v3) &&& 63)) - (1 : Int64))) (v1 - (v1 &&& (((1 : Int64) <<< (Int32.toInt64 ((1075 : Int32) - v3) &&& 63)) - (1 : Int64))))) (cond (cn1 .eq (lg_cmp ((v1 - (v1 &&& (((1 : Int64) <<< (Int32.toInt64 ((1075 : Int32) - v3) &&& 63)) - (1 : Int64)))) &&& ((1 : Int64) <<< (Int32.toInt64 ((1075 : Int32) - v3) &&& 63))) (0 : Int64))) (t_Re_whole_98 ((1 : Int64) <<< (Int32.toInt64 ((1075 : Int32) - v3) &&& 63)) (v1 &&& (((1 : Int64) <<< (Int32.toInt64 ((1075 : Int32) - v3) &&& 63)) - (1 : Int64))) (v1 - (v1 &&& (((1 : Int64) <<< (Int32.toInt64 ((1075 : Int32) - v3) &&& 63)) - (1 : Int64))))) (t_Re_whole_96 ((1 : Int64) <<< (Int32.toInt64 ((1075 : Int32) - v3) &&& 63)) (v1 &&& (((1 : Int64) <<< (Int32.toInt64 ((1075 : Int32) - v3) &&& 63)) - (1 : Int64))) (v1 - (v1 &&& (((1 : Int64) <<< (Int32.toInt64 ((1075 : Int32) - v3) &&& 63)) - (1 : Int64))))))))) (cond (cn1 .ne w0) (t_Re_whole_53 v4) (cond (cn2 .ne v0 (3 : Int32)) v4 (cond (cn1 .le (lg_cmp (f_Re_size v1) (4602678819172646912 : Int64))) v4 (t_Re_whole_53 v4))))) (t_Re_whole_37 v1)))
theorem ct_Re_whole_28 {d : Nat} {P : AP} (v0 : Int32) (v1 : Int64) (v3 : Int32) (v4 : Int64) (w0 : Int32) : X m_Re_whole (d + 2) 28 [some (.inl v0), some (.inr (.inl v1)), none, some (.inl v3), some (.inr (.inl v4)), none, none, none, none, none, none, none, none] [.inl w0] P (qL P (t_Re_whole_28 v0 v1 v3 v4 w0)) := by
  unfold t_Re_whole_28
  refine X_run 2 (i1 := 30) (L1 := [some (.inl v0), some (.inr (.inl v1)), none, some (.inl v3), some (.inr (.inl v4)), none, some (.inl w0), none, none, none, none, none, none]) (st1 := [.inr (.inl v1)]) rfl ?_
  refine X_calls m_Re_size (As := [.inr (.inl v1)]) (st := []) ok_Re_size rfl rfl rfl (Nat.le_of_ble_eq_true rfl) (Nat.le_of_ble_eq_true rfl) (c_Re_size (d := d + 1) v1) ?_
  rintro _ _ ⟨rfl, rfl⟩
  show X _ _ 31 [some (.inl v0), some (.inr (.inl v1)), none, some (.inl v3), some (.inr (.inl v4)), none, some (.inl w0), none, none, none, none, none, none] [.inr (.inl (f_Re_size v1))] _ _
  refine X_run 3 (i1 := cond (cn1 .eq (lg_cmp (f_Re_size v1) (0 : Int64))) 37 34) (L1 := [some (.inl v0), some (.inr (.inl v1)), none, some (.inl v3), some (.inr (.inl v4)), none, some (.inl w0), none, none, none, none, none, none]) (st1 := []) rfl ?_
  refine X_brq (fun hb33 => ?_) (fun hb33 => ?_)
  · refine X_mask [false, true, true, false, false, true, false, true, true, true, true, true, true] ?_
    exact ct_Re_whole_37 v1
  · refine X_run 3 (i1 := cond (cn2 .lt v3 (1075 : Int32)) 40 37) (L1 := [some (.inl v0), some (.inr (.inl v1)), none, some (.inl v3), some (.inr (.inl v4)), none, some (.inl w0), none, none, none, none, none, none]) (st1 := []) rfl ?_
    refine X_brq (fun hb36 => ?_) (fun hb36 => ?_)
    · refine X_run 3 (i1 := cond (cn2 .ge v3 (1023 : Int32)) 59 43) (L1 := [some (.inl v0), some (.inr (.inl v1)), none, some (.inl v3), some (.inr (.inl v4)), none, some (.inl w0), none, none, none, none, none, none]) (st1 := []) rfl ?_
      refine X_brq (fun hb42 => ?_) (fun hb42 => ?_)
      · refine X_run 19 (i1 := cond (cn2 .ne v0 (3 : Int32)) 100 78) (L1 := [some (.inl v0), some (.inr (.inl v1)), none, some (.inl v3), some (.inr (.inl v4)), none, some (.inl w0), some (.inr (.inl ((1 : Int64) <<< (Int32.toInt64 ((1075 : Int32) - v3) &&& 63)))), none, some (.inr (.inl (v1 &&& (((1 : Int64) <<< (Int32.toInt64 ((1075 : Int32) - v3) &&& 63)) - (1 : Int64))))), none, some (.inr (.inl (v1 - (v1 &&& (((1 : Int64) <<< (Int32.toInt64 ((1075 : Int32) - v3) &&& 63)) - (1 : Int64)))))), none]) (st1 := []) rfl ?_
        refine X_brq (fun hb77 => ?_) (fun hb77 => ?_)
        · refine X_mask [false, false, true, false, false, true, true, true, true, true, true, true, true] ?_
          exact ct_Re_whole_100 w0 ((1 : Int64) <<< (Int32.toInt64 ((1075 : Int32) - v3) &&& 63)) (v1 &&& (((1 : Int64) <<< (Int32.toInt64 ((1075 : Int32) - v3) &&& 63)) - (1 : Int64))) (v1 - (v1 &&& (((1 : Int64) <<< (Int32.toInt64 ((1075 : Int32) - v3) &&& 63)) - (1 : Int64))))
        · refine X_run 6 (i1 := cond (cn1 .gt (lg_cmp (v1 &&& (((1 : Int64) <<< (Int32.toInt64 ((1075 : Int32) - v3) &&& 63)) - (1 : Int64))) (((1 : Int64) <<< (Int32.toInt64 ((1075 : Int32) - v3) &&& 63)) / (2 : Int64)))) 96 84) (L1 := [some (.inl v0), some (.inr (.inl v1)), none, some (.inl v3), some (.inr (.inl v4)), none, some (.inl w0), some (.inr (.inl ((1 : Int64) <<< (Int32.toInt64 ((1075 : Int32) - v3) &&& 63)))), none, some (.inr (.inl (v1 &&& (((1 : Int64) <<< (Int32.toInt64 ((1075 : Int32) - v3) &&& 63)) - (1 : Int64))))), none, some (.inr (.inl (v1 - (v1 &&& (((1 : Int64) <<< (Int32.toInt64 ((1075 : Int32) - v3) &&& 63)) - (1 : Int64)))))), none]) (st1 := []) rfl ?_
          refine X_brq (fun hb83 => ?_) (fun hb83 => ?_)
          · refine X_mask [false, false, true, false, false, true, false, true, true, true, true, true, true] ?_
            exact ct_Re_whole_96 ((1 : Int64) <<< (Int32.toInt64 ((1075 : Int32) - v3) &&& 63)) (v1 &&& (((1 : Int64) <<< (Int32.toInt64 ((1075 : Int32) - v3) &&& 63)) - (1 : Int64))) (v1 - (v1 &&& (((1 : Int64) <<< (Int32.toInt64 ((1075 : Int32) - v3) &&& 63)) - (1 : Int64))))
          · refine X_run 6 (i1 := cond (cn1 .ne (lg_cmp (v1 &&& (((1 : Int64) <<< (Int32.toInt64 ((1075 : Int32) - v3) &&& 63)) - (1 : Int64))) (((1 : Int64) <<< (Int32.toInt64 ((1075 : Int32) - v3) &&& 63)) / (2 : Int64)))) 98 90) (L1 := [some (.inl v0), some (.inr (.inl v1)), none, some (.inl v3), some (.inr (.inl v4)), none, some (.inl w0), some (.inr (.inl ((1 : Int64) <<< (Int32.toInt64 ((1075 : Int32) - v3) &&& 63)))), none, some (.inr (.inl (v1 &&& (((1 : Int64) <<< (Int32.toInt64 ((1075 : Int32) - v3) &&& 63)) - (1 : Int64))))), none, some (.inr (.inl (v1 - (v1 &&& (((1 : Int64) <<< (Int32.toInt64 ((1075 : Int32) - v3) &&& 63)) - (1 : Int64)))))), none]) (st1 := []) rfl ?_
            refine X_brq (fun hb89 => ?_) (fun hb89 => ?_)
            · refine X_mask [false, false, true, false, false, true, false, true, true, true, true, true, true] ?_
              exact ct_Re_whole_98 ((1 : Int64) <<< (Int32.toInt64 ((1075 : Int32) - v3) &&& 63)) (v1 &&& (((1 : Int64) <<< (Int32.toInt64 ((1075 : Int32) - v3) &&& 63)) - (1 : Int64))) (v1 - (v1 &&& (((1 : Int64) <<< (Int32.toInt64 ((1075 : Int32) - v3) &&& 63)) - (1 : Int64))))
            · refine X_run 6 (i1 := cond (cn1 .eq (lg_cmp ((v1 - (v1 &&& (((1 : Int64) <<< (Int32.toInt64 ((1075 : Int32) - v3) &&& 63)) - (1 : Int64)))) &&& ((1 : Int64) <<< (Int32.toInt64 ((1075 : Int32) - v3) &&& 63))) (0 : Int64))) 98 96) (L1 := [some (.inl v0), some (.inr (.inl v1)), none, some (.inl v3), some (.inr (.inl v4)), none, some (.inl w0), some (.inr (.inl ((1 : Int64) <<< (Int32.toInt64 ((1075 : Int32) - v3) &&& 63)))), none, some (.inr (.inl (v1 &&& (((1 : Int64) <<< (Int32.toInt64 ((1075 : Int32) - v3) &&& 63)) - (1 : Int64))))), none, some (.inr (.inl (v1 - (v1 &&& (((1 : Int64) <<< (Int32.toInt64 ((1075 : Int32) - v3) &&& 63)) - (1 : Int64)))))), none]) (st1 := []) rfl ?_
              refine X_brq (fun hb95 => ?_) (fun hb95 => ?_)
              · refine X_mask [false, false, true, false, false, true, false, true, true, true, true, true, true] ?_
                exact ct_Re_whole_98 ((1 : Int64) <<< (Int32.toInt64 ((1075 : Int32) - v3) &&& 63)) (v1 &&& (((1 : Int64) <<< (Int32.toInt64 ((1075 : Int32) - v3) &&& 63)) - (1 : Int64))) (v1 - (v1 &&& (((1 : Int64) <<< (Int32.toInt64 ((1075 : Int32) - v3) &&& 63)) - (1 : Int64))))
              · refine X_mask [false, false, true, false, false, true, false, true, true, true, true, true, true] ?_
                exact ct_Re_whole_96 ((1 : Int64) <<< (Int32.toInt64 ((1075 : Int32) - v3) &&& 63)) (v1 &&& (((1 : Int64) <<< (Int32.toInt64 ((1075 : Int32) - v3) &&& 63)) - (1 : Int64))) (v1 - (v1 &&& (((1 : Int64) <<< (Int32.toInt64 ((1075 : Int32) - v3) &&& 63)) - (1 : Int64))))
      · refine X_run 2 (i1 := cond (cn1 .ne w0) 53 45) (L1 := [some (.inl v0), some (.inr (.inl v1)), none, some (.inl v3), some (.inr (.inl v4)), none, some (.inl w0), none, none, none, none, none, none]) (st1 := []) rfl ?_
        refine X_brq (fun hb44 => ?_) (fun hb44 => ?_)
        · refine X_mask [false, false, true, false, true, true, false, true, true, true, true, true, true] ?_
          exact ct_Re_whole_53 v4
        · refine X_run 3 (i1 := cond (cn2 .ne v0 (3 : Int32)) 57 48) (L1 := [some (.inl v0), some (.inr (.inl v1)), none, some (.inl v3), some (.inr (.inl v4)), none, some (.inl w0), none, none, none, none, none, none]) (st1 := []) rfl ?_
          refine X_brq (fun hb47 => ?_) (fun hb47 => ?_)
          · refine X_run 1 (i1 := 58) (L1 := [some (.inl v0), some (.inr (.inl v1)), none, some (.inl v3), some (.inr (.inl v4)), none, some (.inl w0), none, none, none, none, none, none]) (st1 := [.inr (.inl v4)]) rfl ?_
            exact X_lret rfl rfl ⟨rfl, rfl⟩
          · refine X_run 1 (i1 := 49) (L1 := [some (.inl v0), some (.inr (.inl v1)), none, some (.inl v3), some (.inr (.inl v4)), none, some (.inl w0), none, none, none, none, none, none]) (st1 := [.inr (.inl v1)]) rfl ?_
            refine X_calls m_Re_size (As := [.inr (.inl v1)]) (st := []) ok_Re_size rfl rfl rfl (Nat.le_of_ble_eq_true rfl) (Nat.le_of_ble_eq_true rfl) (c_Re_size (d := d + 1) v1) ?_
            rintro _ _ ⟨rfl, rfl⟩
            show X _ _ 50 [some (.inl v0), some (.inr (.inl v1)), none, some (.inl v3), some (.inr (.inl v4)), none, some (.inl w0), none, none, none, none, none, none] [.inr (.inl (f_Re_size v1))] _ _
            refine X_run 3 (i1 := cond (cn1 .le (lg_cmp (f_Re_size v1) (4602678819172646912 : Int64))) 57 53) (L1 := [some (.inl v0), some (.inr (.inl v1)), none, some (.inl v3), some (.inr (.inl v4)), none, some (.inl w0), none, none, none, none, none, none]) (st1 := []) rfl ?_
            refine X_brq (fun hb52 => ?_) (fun hb52 => ?_)
            · refine X_run 1 (i1 := 58) (L1 := [some (.inl v0), some (.inr (.inl v1)), none, some (.inl v3), some (.inr (.inl v4)), none, some (.inl w0), none, none, none, none, none, none]) (st1 := [.inr (.inl v4)]) rfl ?_
              exact X_lret rfl rfl ⟨rfl, rfl⟩
            · refine X_mask [false, false, true, false, true, true, false, true, true, true, true, true, true] ?_
              exact ct_Re_whole_53 v4
    · refine X_mask [false, true, true, false, false, true, false, true, true, true, true, true, true] ?_
      exact ct_Re_whole_37 v1
def t_Re_whole_27 (v0 : Int32) (v1 : Int64) (v3 : Int32) (v4 : Int64) : Int64 := (t_Re_whole_28 v0 v1 v3 v4 (0 : Int32))
theorem ct_Re_whole_27 {d : Nat} {P : AP} (v0 : Int32) (v1 : Int64) (v3 : Int32) (v4 : Int64) : X m_Re_whole (d + 2) 27 [some (.inl v0), some (.inr (.inl v1)), none, some (.inl v3), some (.inr (.inl v4)), none, none, none, none, none, none, none, none] [] P (qL P (t_Re_whole_27 v0 v1 v3 v4)) := by
  unfold t_Re_whole_27
  refine X_run 1 (i1 := 28) (L1 := [some (.inl v0), some (.inr (.inl v1)), none, some (.inl v3), some (.inr (.inl v4)), none, none, none, none, none, none, none, none]) (st1 := [.inl (0 : Int32)]) rfl ?_
  exact ct_Re_whole_28 v0 v1 v3 v4 (0 : Int32)
def f_Re_whole (a0 : Int32) (a1 : Int64) : Int64 := (cond (cn2 .ne a0 (1 : Int32)) (cond (cn2 .ne a0 (2 : Int32)) (t_Re_whole_27 a0 a1 (f_Re_field a1) (a1 &&& (-9223372036854775808 : Int64))) (cond (cn1 .ne (lg_cmp (a1 &&& (-9223372036854775808 : Int64)) (0 : Int64))) (t_Re_whole_27 a0 a1 (f_Re_field a1) (a1 &&& (-9223372036854775808 : Int64))) (t_Re_whole_28 a0 a1 (f_Re_field a1) (a1 &&& (-9223372036854775808 : Int64)) (1 : Int32)))) (cond (cn1 .eq (lg_cmp (a1 &&& (-9223372036854775808 : Int64)) (0 : Int64))) (t_Re_whole_28 a0 a1 (f_Re_field a1) (a1 &&& (-9223372036854775808 : Int64)) (0 : Int32)) (t_Re_whole_28 a0 a1 (f_Re_field a1) (a1 &&& (-9223372036854775808 : Int64)) (1 : Int32))))
theorem c_Re_whole {d : Nat} {P : AP} (a0 : Int32) (a1 : Int64) : X m_Re_whole (d + 2) 0 (entL 13 [.inl a0, .inr (.inl a1)]) [] P (qL P (f_Re_whole a0 a1)) := by
  unfold f_Re_whole
  refine X_run 1 (i1 := 1) (L1 := [some (.inl a0), some (.inr (.inl a1)), none, none, none, none, none, none, none, none, none, none, none]) (st1 := [.inr (.inl a1)]) rfl ?_
  refine X_calls m_Re_field (As := [.inr (.inl a1)]) (st := []) ok_Re_field rfl rfl rfl (Nat.le_of_ble_eq_true rfl) (Nat.le_of_ble_eq_true rfl) (c_Re_field (d := d + 1) a1) ?_
  rintro _ _ ⟨rfl, rfl⟩
  show X _ _ 2 [some (.inl a0), some (.inr (.inl a1)), none, none, none, none, none, none, none, none, none, none, none] [.inl (f_Re_field a1)] _ _
  refine X_run 8 (i1 := cond (cn2 .ne a0 (1 : Int32)) 18 10) (L1 := [some (.inl a0), some (.inr (.inl a1)), none, some (.inl (f_Re_field a1)), some (.inr (.inl (a1 &&& (-9223372036854775808 : Int64)))), none, none, none, none, none, none, none, none]) (st1 := []) rfl ?_
  refine X_brq (fun hb9 => ?_) (fun hb9 => ?_)
  · refine X_run 3 (i1 := cond (cn2 .ne a0 (2 : Int32)) 27 21) (L1 := [some (.inl a0), some (.inr (.inl a1)), none, some (.inl (f_Re_field a1)), some (.inr (.inl (a1 &&& (-9223372036854775808 : Int64)))), none, none, none, none, none, none, none, none]) (st1 := []) rfl ?_
    refine X_brq (fun hb20 => ?_) (fun hb20 => ?_)
    · exact ct_Re_whole_27 a0 a1 (f_Re_field a1) (a1 &&& (-9223372036854775808 : Int64))
    · refine X_run 4 (i1 := cond (cn1 .ne (lg_cmp (a1 &&& (-9223372036854775808 : Int64)) (0 : Int64))) 27 25) (L1 := [some (.inl a0), some (.inr (.inl a1)), none, some (.inl (f_Re_field a1)), some (.inr (.inl (a1 &&& (-9223372036854775808 : Int64)))), none, none, none, none, none, none, none, none]) (st1 := []) rfl ?_
      refine X_brq (fun hb24 => ?_) (fun hb24 => ?_)
      · exact ct_Re_whole_27 a0 a1 (f_Re_field a1) (a1 &&& (-9223372036854775808 : Int64))
      · refine X_run 2 (i1 := 28) (L1 := [some (.inl a0), some (.inr (.inl a1)), none, some (.inl (f_Re_field a1)), some (.inr (.inl (a1 &&& (-9223372036854775808 : Int64)))), none, none, none, none, none, none, none, none]) (st1 := [.inl (1 : Int32)]) rfl ?_
        exact ct_Re_whole_28 a0 a1 (f_Re_field a1) (a1 &&& (-9223372036854775808 : Int64)) (1 : Int32)
  · refine X_run 4 (i1 := cond (cn1 .eq (lg_cmp (a1 &&& (-9223372036854775808 : Int64)) (0 : Int64))) 16 14) (L1 := [some (.inl a0), some (.inr (.inl a1)), none, some (.inl (f_Re_field a1)), some (.inr (.inl (a1 &&& (-9223372036854775808 : Int64)))), none, none, none, none, none, none, none, none]) (st1 := []) rfl ?_
    refine X_brq (fun hb13 => ?_) (fun hb13 => ?_)
    · refine X_run 2 (i1 := 28) (L1 := [some (.inl a0), some (.inr (.inl a1)), none, some (.inl (f_Re_field a1)), some (.inr (.inl (a1 &&& (-9223372036854775808 : Int64)))), none, none, none, none, none, none, none, none]) (st1 := [.inl (0 : Int32)]) rfl ?_
      exact ct_Re_whole_28 a0 a1 (f_Re_field a1) (a1 &&& (-9223372036854775808 : Int64)) (0 : Int32)
    · refine X_run 2 (i1 := 28) (L1 := [some (.inl a0), some (.inr (.inl a1)), none, some (.inl (f_Re_field a1)), some (.inr (.inl (a1 &&& (-9223372036854775808 : Int64)))), none, none, none, none, none, none, none, none]) (st1 := [.inl (1 : Int32)]) rfl ?_
      exact ct_Re_whole_28 a0 a1 (f_Re_field a1) (a1 &&& (-9223372036854775808 : Int64)) (1 : Int32)
def t_Re_holds_6 (v0 : Int32) : Bool := (cond (cn2 .ne v0 (5 : Int32)) false true)
theorem ct_Re_holds_6 {d : Nat} {P : AP} (v0 : Int32) : X m_Re_holds (d + 1) 6 [some (.inl v0), none, none, none, none] [] P (qB P (t_Re_holds_6 v0)) := by
  unfold t_Re_holds_6
  refine X_run 3 (i1 := cond (cn2 .ne v0 (5 : Int32)) 11 9) (L1 := [some (.inl v0), none, none, none, none]) (st1 := []) rfl ?_
  refine X_brq (fun hb8 => ?_) (fun hb8 => ?_)
  · refine X_run 1 (i1 := 12) (L1 := [some (.inl v0), none, none, none, none]) (st1 := [.inl (0 : Int32)]) rfl ?_
    exact X_zret rfl rfl (b2i_01 false) ⟨rfl, rfl⟩
  · refine X_run 2 (i1 := 12) (L1 := [some (.inl v0), none, none, none, none]) (st1 := [.inl (1 : Int32)]) rfl ?_
    exact X_zret rfl rfl (b2i_01 true) ⟨rfl, rfl⟩
def f_Re_holds (a0 : Int32) (a1 : Int64) (a2 : Int64) : Bool := (cond (cn1 .ne (b2i (f_Re_isNan a1))) (t_Re_holds_6 a0) (cond (cn1 .eq (b2i (f_Re_isNan a2))) (if a0 = (0 : Int32) then (cond (cn1 .ge (lg_cmp (f_Re_rank a1) (f_Re_rank a2))) false true) else (if a0 = (1 : Int32) then (cond (cn1 .gt (lg_cmp (f_Re_rank a1) (f_Re_rank a2))) false true) else (if a0 = (2 : Int32) then (cond (cn1 .le (lg_cmp (f_Re_rank a1) (f_Re_rank a2))) false true) else (if a0 = (3 : Int32) then (cond (cn1 .lt (lg_cmp (f_Re_rank a1) (f_Re_rank a2))) false true) else (if a0 = (4 : Int32) then (cond (cn1 .ne (lg_cmp (f_Re_rank a1) (f_Re_rank a2))) false true) else (cond (cn1 .eq (lg_cmp (f_Re_rank a1) (f_Re_rank a2))) false true)))))) (t_Re_holds_6 a0)))
theorem c_Re_holds {d : Nat} {P : AP} (a0 : Int32) (a1 : Int64) (a2 : Int64) : X m_Re_holds (d + 1) 0 (entL 5 [.inl a0, .inr (.inl a1), .inr (.inl a2)]) [] P (qB P (f_Re_holds a0 a1 a2)) := by
  unfold f_Re_holds
  refine X_run 1 (i1 := 1) (L1 := [some (.inl a0), some (.inr (.inl a1)), none, some (.inr (.inl a2)), none]) (st1 := [.inr (.inl a1)]) rfl ?_
  refine X_calls m_Re_isNan (As := [.inr (.inl a1)]) (st := []) ok_Re_isNan rfl rfl rfl (Nat.le_of_ble_eq_true rfl) (Nat.le_of_ble_eq_true rfl) (c_Re_isNan (d := d) a1) ?_
  rintro _ _ ⟨rfl, rfl⟩
  show X _ _ 2 [some (.inl a0), some (.inr (.inl a1)), none, some (.inr (.inl a2)), none] [.inl (b2i (f_Re_isNan a1))] _ _
  refine X_run 1 (i1 := cond (cn1 .ne (b2i (f_Re_isNan a1))) 6 3) (L1 := [some (.inl a0), some (.inr (.inl a1)), none, some (.inr (.inl a2)), none]) (st1 := []) rfl ?_
  refine X_brq (fun hb2 => ?_) (fun hb2 => ?_)
  · refine X_mask [true, false, true, false, true] ?_
    exact ct_Re_holds_6 a0
  · refine X_run 1 (i1 := 4) (L1 := [some (.inl a0), some (.inr (.inl a1)), none, some (.inr (.inl a2)), none]) (st1 := [.inr (.inl a2)]) rfl ?_
    refine X_calls m_Re_isNan (As := [.inr (.inl a2)]) (st := []) ok_Re_isNan rfl rfl rfl (Nat.le_of_ble_eq_true rfl) (Nat.le_of_ble_eq_true rfl) (c_Re_isNan (d := d) a2) ?_
    rintro _ _ ⟨rfl, rfl⟩
    show X _ _ 5 [some (.inl a0), some (.inr (.inl a1)), none, some (.inr (.inl a2)), none] [.inl (b2i (f_Re_isNan a2))] _ _
    refine X_run 1 (i1 := cond (cn1 .eq (b2i (f_Re_isNan a2))) 13 6) (L1 := [some (.inl a0), some (.inr (.inl a1)), none, some (.inr (.inl a2)), none]) (st1 := []) rfl ?_
    refine X_brq (fun hb5 => ?_) (fun hb5 => ?_)
    · refine X_run 1 (i1 := 14) (L1 := [some (.inl a0), some (.inr (.inl a1)), none, some (.inr (.inl a2)), none]) (st1 := [.inl a0]) rfl ?_
      refine X_itq (fun h => ?_) (fun h14_0 => ?_)
      · refine X_tsk rfl h rfl ?_
        refine X_run 1 (i1 := 16) (L1 := [some (.inl a0), some (.inr (.inl a1)), none, some (.inr (.inl a2)), none]) (st1 := [.inr (.inl a1)]) rfl ?_
        refine X_calls m_Re_rank (As := [.inr (.inl a1)]) (st := []) ok_Re_rank rfl rfl rfl (Nat.le_of_ble_eq_true rfl) (Nat.le_of_ble_eq_true rfl) (c_Re_rank (d := d) a1) ?_
        rintro _ _ ⟨rfl, rfl⟩
        show X _ _ 17 [some (.inl a0), some (.inr (.inl a1)), none, some (.inr (.inl a2)), none] [.inr (.inl (f_Re_rank a1))] _ _
        refine X_run 1 (i1 := 18) (L1 := [some (.inl a0), some (.inr (.inl a1)), none, some (.inr (.inl a2)), none]) (st1 := [.inr (.inl a2), .inr (.inl (f_Re_rank a1))]) rfl ?_
        refine X_calls m_Re_rank (As := [.inr (.inl a2)]) (st := [.inr (.inl (f_Re_rank a1))]) ok_Re_rank rfl rfl rfl (Nat.le_of_ble_eq_true rfl) (Nat.le_of_ble_eq_true rfl) (c_Re_rank (d := d) a2) ?_
        rintro _ _ ⟨rfl, rfl⟩
        show X _ _ 19 [some (.inl a0), some (.inr (.inl a1)), none, some (.inr (.inl a2)), none] [.inr (.inl (f_Re_rank a2)), .inr (.inl (f_Re_rank a1))] _ _
        refine X_run 2 (i1 := cond (cn1 .ge (lg_cmp (f_Re_rank a1) (f_Re_rank a2))) 23 21) (L1 := [some (.inl a0), some (.inr (.inl a1)), none, some (.inr (.inl a2)), none]) (st1 := []) rfl ?_
        refine X_brq (fun hb20 => ?_) (fun hb20 => ?_)
        · refine X_run 1 (i1 := 24) (L1 := [some (.inl a0), some (.inr (.inl a1)), none, some (.inr (.inl a2)), none]) (st1 := [.inl (0 : Int32)]) rfl ?_
          exact X_zret rfl rfl (b2i_01 false) ⟨rfl, rfl⟩
        · refine X_run 2 (i1 := 24) (L1 := [some (.inl a0), some (.inr (.inl a1)), none, some (.inr (.inl a2)), none]) (st1 := [.inl (1 : Int32)]) rfl ?_
          exact X_zret rfl rfl (b2i_01 true) ⟨rfl, rfl⟩
      refine X_itq (fun h => ?_) (fun h14_1 => ?_)
      · refine X_tsk rfl h rfl ?_
        refine X_run 1 (i1 := 26) (L1 := [some (.inl a0), some (.inr (.inl a1)), none, some (.inr (.inl a2)), none]) (st1 := [.inr (.inl a1)]) rfl ?_
        refine X_calls m_Re_rank (As := [.inr (.inl a1)]) (st := []) ok_Re_rank rfl rfl rfl (Nat.le_of_ble_eq_true rfl) (Nat.le_of_ble_eq_true rfl) (c_Re_rank (d := d) a1) ?_
        rintro _ _ ⟨rfl, rfl⟩
        show X _ _ 27 [some (.inl a0), some (.inr (.inl a1)), none, some (.inr (.inl a2)), none] [.inr (.inl (f_Re_rank a1))] _ _
        refine X_run 1 (i1 := 28) (L1 := [some (.inl a0), some (.inr (.inl a1)), none, some (.inr (.inl a2)), none]) (st1 := [.inr (.inl a2), .inr (.inl (f_Re_rank a1))]) rfl ?_
        refine X_calls m_Re_rank (As := [.inr (.inl a2)]) (st := [.inr (.inl (f_Re_rank a1))]) ok_Re_rank rfl rfl rfl (Nat.le_of_ble_eq_true rfl) (Nat.le_of_ble_eq_true rfl) (c_Re_rank (d := d) a2) ?_
        rintro _ _ ⟨rfl, rfl⟩
        show X _ _ 29 [some (.inl a0), some (.inr (.inl a1)), none, some (.inr (.inl a2)), none] [.inr (.inl (f_Re_rank a2)), .inr (.inl (f_Re_rank a1))] _ _
        refine X_run 2 (i1 := cond (cn1 .gt (lg_cmp (f_Re_rank a1) (f_Re_rank a2))) 33 31) (L1 := [some (.inl a0), some (.inr (.inl a1)), none, some (.inr (.inl a2)), none]) (st1 := []) rfl ?_
        refine X_brq (fun hb30 => ?_) (fun hb30 => ?_)
        · refine X_run 1 (i1 := 34) (L1 := [some (.inl a0), some (.inr (.inl a1)), none, some (.inr (.inl a2)), none]) (st1 := [.inl (0 : Int32)]) rfl ?_
          exact X_zret rfl rfl (b2i_01 false) ⟨rfl, rfl⟩
        · refine X_run 2 (i1 := 34) (L1 := [some (.inl a0), some (.inr (.inl a1)), none, some (.inr (.inl a2)), none]) (st1 := [.inl (1 : Int32)]) rfl ?_
          exact X_zret rfl rfl (b2i_01 true) ⟨rfl, rfl⟩
      refine X_itq (fun h => ?_) (fun h14_2 => ?_)
      · refine X_tsk rfl h rfl ?_
        refine X_run 1 (i1 := 36) (L1 := [some (.inl a0), some (.inr (.inl a1)), none, some (.inr (.inl a2)), none]) (st1 := [.inr (.inl a1)]) rfl ?_
        refine X_calls m_Re_rank (As := [.inr (.inl a1)]) (st := []) ok_Re_rank rfl rfl rfl (Nat.le_of_ble_eq_true rfl) (Nat.le_of_ble_eq_true rfl) (c_Re_rank (d := d) a1) ?_
        rintro _ _ ⟨rfl, rfl⟩
        show X _ _ 37 [some (.inl a0), some (.inr (.inl a1)), none, some (.inr (.inl a2)), none] [.inr (.inl (f_Re_rank a1))] _ _
        refine X_run 1 (i1 := 38) (L1 := [some (.inl a0), some (.inr (.inl a1)), none, some (.inr (.inl a2)), none]) (st1 := [.inr (.inl a2), .inr (.inl (f_Re_rank a1))]) rfl ?_
        refine X_calls m_Re_rank (As := [.inr (.inl a2)]) (st := [.inr (.inl (f_Re_rank a1))]) ok_Re_rank rfl rfl rfl (Nat.le_of_ble_eq_true rfl) (Nat.le_of_ble_eq_true rfl) (c_Re_rank (d := d) a2) ?_
        rintro _ _ ⟨rfl, rfl⟩
        show X _ _ 39 [some (.inl a0), some (.inr (.inl a1)), none, some (.inr (.inl a2)), none] [.inr (.inl (f_Re_rank a2)), .inr (.inl (f_Re_rank a1))] _ _
        refine X_run 2 (i1 := cond (cn1 .le (lg_cmp (f_Re_rank a1) (f_Re_rank a2))) 43 41) (L1 := [some (.inl a0), some (.inr (.inl a1)), none, some (.inr (.inl a2)), none]) (st1 := []) rfl ?_
        refine X_brq (fun hb40 => ?_) (fun hb40 => ?_)
        · refine X_run 1 (i1 := 44) (L1 := [some (.inl a0), some (.inr (.inl a1)), none, some (.inr (.inl a2)), none]) (st1 := [.inl (0 : Int32)]) rfl ?_
          exact X_zret rfl rfl (b2i_01 false) ⟨rfl, rfl⟩
        · refine X_run 2 (i1 := 44) (L1 := [some (.inl a0), some (.inr (.inl a1)), none, some (.inr (.inl a2)), none]) (st1 := [.inl (1 : Int32)]) rfl ?_
          exact X_zret rfl rfl (b2i_01 true) ⟨rfl, rfl⟩
      refine X_itq (fun h => ?_) (fun h14_3 => ?_)
      · refine X_tsk rfl h rfl ?_
        refine X_run 1 (i1 := 46) (L1 := [some (.inl a0), some (.inr (.inl a1)), none, some (.inr (.inl a2)), none]) (st1 := [.inr (.inl a1)]) rfl ?_
        refine X_calls m_Re_rank (As := [.inr (.inl a1)]) (st := []) ok_Re_rank rfl rfl rfl (Nat.le_of_ble_eq_true rfl) (Nat.le_of_ble_eq_true rfl) (c_Re_rank (d := d) a1) ?_
        rintro _ _ ⟨rfl, rfl⟩
        show X _ _ 47 [some (.inl a0), some (.inr (.inl a1)), none, some (.inr (.inl a2)), none] [.inr (.inl (f_Re_rank a1))] _ _
        refine X_run 1 (i1 := 48) (L1 := [some (.inl a0), some (.inr (.inl a1)), none, some (.inr (.inl a2)), none]) (st1 := [.inr (.inl a2), .inr (.inl (f_Re_rank a1))]) rfl ?_
        refine X_calls m_Re_rank (As := [.inr (.inl a2)]) (st := [.inr (.inl (f_Re_rank a1))]) ok_Re_rank rfl rfl rfl (Nat.le_of_ble_eq_true rfl) (Nat.le_of_ble_eq_true rfl) (c_Re_rank (d := d) a2) ?_
        rintro _ _ ⟨rfl, rfl⟩
        show X _ _ 49 [some (.inl a0), some (.inr (.inl a1)), none, some (.inr (.inl a2)), none] [.inr (.inl (f_Re_rank a2)), .inr (.inl (f_Re_rank a1))] _ _
        refine X_run 2 (i1 := cond (cn1 .lt (lg_cmp (f_Re_rank a1) (f_Re_rank a2))) 53 51) (L1 := [some (.inl a0), some (.inr (.inl a1)), none, some (.inr (.inl a2)), none]) (st1 := []) rfl ?_
        refine X_brq (fun hb50 => ?_) (fun hb50 => ?_)
        · refine X_run 1 (i1 := 54) (L1 := [some (.inl a0), some (.inr (.inl a1)), none, some (.inr (.inl a2)), none]) (st1 := [.inl (0 : Int32)]) rfl ?_
          exact X_zret rfl rfl (b2i_01 false) ⟨rfl, rfl⟩
        · refine X_run 2 (i1 := 54) (L1 := [some (.inl a0), some (.inr (.inl a1)), none, some (.inr (.inl a2)), none]) (st1 := [.inl (1 : Int32)]) rfl ?_
          exact X_zret rfl rfl (b2i_01 true) ⟨rfl, rfl⟩
      refine X_itq (fun h => ?_) (fun h14_4 => ?_)
      · refine X_tsk rfl h rfl ?_
        refine X_run 1 (i1 := 56) (L1 := [some (.inl a0), some (.inr (.inl a1)), none, some (.inr (.inl a2)), none]) (st1 := [.inr (.inl a1)]) rfl ?_
        refine X_calls m_Re_rank (As := [.inr (.inl a1)]) (st := []) ok_Re_rank rfl rfl rfl (Nat.le_of_ble_eq_true rfl) (Nat.le_of_ble_eq_true rfl) (c_Re_rank (d := d) a1) ?_
        rintro _ _ ⟨rfl, rfl⟩
        show X _ _ 57 [some (.inl a0), some (.inr (.inl a1)), none, some (.inr (.inl a2)), none] [.inr (.inl (f_Re_rank a1))] _ _
        refine X_run 1 (i1 := 58) (L1 := [some (.inl a0), some (.inr (.inl a1)), none, some (.inr (.inl a2)), none]) (st1 := [.inr (.inl a2), .inr (.inl (f_Re_rank a1))]) rfl ?_
        refine X_calls m_Re_rank (As := [.inr (.inl a2)]) (st := [.inr (.inl (f_Re_rank a1))]) ok_Re_rank rfl rfl rfl (Nat.le_of_ble_eq_true rfl) (Nat.le_of_ble_eq_true rfl) (c_Re_rank (d := d) a2) ?_
        rintro _ _ ⟨rfl, rfl⟩
        show X _ _ 59 [some (.inl a0), some (.inr (.inl a1)), none, some (.inr (.inl a2)), none] [.inr (.inl (f_Re_rank a2)), .inr (.inl (f_Re_rank a1))] _ _
        refine X_run 2 (i1 := cond (cn1 .ne (lg_cmp (f_Re_rank a1) (f_Re_rank a2))) 63 61) (L1 := [some (.inl a0), some (.inr (.inl a1)), none, some (.inr (.inl a2)), none]) (st1 := []) rfl ?_
        refine X_brq (fun hb60 => ?_) (fun hb60 => ?_)
        · refine X_run 1 (i1 := 64) (L1 := [some (.inl a0), some (.inr (.inl a1)), none, some (.inr (.inl a2)), none]) (st1 := [.inl (0 : Int32)]) rfl ?_
          exact X_zret rfl rfl (b2i_01 false) ⟨rfl, rfl⟩
        · refine X_run 2 (i1 := 64) (L1 := [some (.inl a0), some (.inr (.inl a1)), none, some (.inr (.inl a2)), none]) (st1 := [.inl (1 : Int32)]) rfl ?_
          exact X_zret rfl rfl (b2i_01 true) ⟨rfl, rfl⟩
      refine X_tsd rfl ((sw_out (0) 5 (by decide) (by decide) (fun j hj => by
        match j, hj with
        | 0, _ => exact h14_0
        | 1, _ => exact h14_1
        | 2, _ => exact h14_2
        | 3, _ => exact h14_3
        | 4, _ => exact h14_4)).imp id (fun h => by omega)) ?_
      refine X_run 1 (i1 := 66) (L1 := [some (.inl a0), some (.inr (.inl a1)), none, some (.inr (.inl a2)), none]) (st1 := [.inr (.inl a1)]) rfl ?_
      refine X_calls m_Re_rank (As := [.inr (.inl a1)]) (st := []) ok_Re_rank rfl rfl rfl (Nat.le_of_ble_eq_true rfl) (Nat.le_of_ble_eq_true rfl) (c_Re_rank (d := d) a1) ?_
      rintro _ _ ⟨rfl, rfl⟩
      show X _ _ 67 [some (.inl a0), some (.inr (.inl a1)), none, some (.inr (.inl a2)), none] [.inr (.inl (f_Re_rank a1))] _ _
      refine X_run 1 (i1 := 68) (L1 := [some (.inl a0), some (.inr (.inl a1)), none, some (.inr (.inl a2)), none]) (st1 := [.inr (.inl a2), .inr (.inl (f_Re_rank a1))]) rfl ?_
      refine X_calls m_Re_rank (As := [.inr (.inl a2)]) (st := [.inr (.inl (f_Re_rank a1))]) ok_Re_rank rfl rfl rfl (Nat.le_of_ble_eq_true rfl) (Nat.le_of_ble_eq_true rfl) (c_Re_rank (d := d) a2) ?_
      rintro _ _ ⟨rfl, rfl⟩
      show X _ _ 69 [some (.inl a0), some (.inr (.inl a1)), none, some (.inr (.inl a2)), none] [.inr (.inl (f_Re_rank a2)), .inr (.inl (f_Re_rank a1))] _ _
      refine X_run 2 (i1 := cond (cn1 .eq (lg_cmp (f_Re_rank a1) (f_Re_rank a2))) 73 71) (L1 := [some (.inl a0), some (.inr (.inl a1)), none, some (.inr (.inl a2)), none]) (st1 := []) rfl ?_
      refine X_brq (fun hb70 => ?_) (fun hb70 => ?_)
      · refine X_run 1 (i1 := 74) (L1 := [some (.inl a0), some (.inr (.inl a1)), none, some (.inr (.inl a2)), none]) (st1 := [.inl (0 : Int32)]) rfl ?_
        exact X_zret rfl rfl (b2i_01 false) ⟨rfl, rfl⟩
      · refine X_run 2 (i1 := 74) (L1 := [some (.inl a0), some (.inr (.inl a1)), none, some (.inr (.inl a2)), none]) (st1 := [.inl (1 : Int32)]) rfl ?_
        exact X_zret rfl rfl (b2i_01 true) ⟨rfl, rfl⟩
    · refine X_mask [true, false, true, false, true] ?_
      exact ct_Re_holds_6 a0
def t_Re_rounded_100 (v3 : Int32) (v7 : Int32) (v9 : Int64) : Int64 := (((Int32.toInt64 (v7 - (1 : Int32))) <<< (Int32.toInt64 v3 &&& 63)) + v9)
theorem ct_Re_rounded_100 {d : Nat} {P : AP} (v3 : Int32) (v7 : Int32) (v9 : Int64) : X m_Re_rounded (d) 100 [none, none, none, some (.inl v3), none, none, none, some (.inl v7), none, some (.inr (.inl v9)), none, none, none, none, none] [] P (qL P (t_Re_rounded_100 v3 v7 v9)) := by
  unfold t_Re_rounded_100
  refine X_run 8 (i1 := 108) (L1 := [none, none, none, some (.inl v3), none, none, none, some (.inl v7), none, some (.inr (.inl v9)), none, none, none, none, none]) (st1 := [.inr (.inl (((Int32.toInt64 (v7 - (1 : Int32))) <<< (Int32.toInt64 v3 &&& 63)) + v9))]) rfl ?_
  exact X_lret rfl rfl ⟨rfl, rfl⟩
def t_Re_rounded_96 (v3 : Int32) (v7 : Int32) (v9 : Int64) : Int64 := (t_Re_rounded_100 v3 v7 (v9 + (1 : Int64)))
theorem ct_Re_rounded_96 {d : Nat} {P : AP} (v3 : Int32) (v7 : Int32) (v9 : Int64) : X m_Re_rounded (d) 96 [none, none, none, some (.inl v3), none, none, none, some (.inl v7), none, some (.inr (.inl v9)), none, none, none, none, none] [] P (qL P (t_Re_rounded_96 v3 v7 v9)) := by
  unfold t_Re_rounded_96
  refine X_run 4 (i1 := 100) (L1 := [none, none, none, some (.inl v3), none, none, none, some (.inl v7), none, some (.inr (.inl (v9 + (1 : Int64)))), none, none, none, none, none]) (st1 := []) rfl ?_
  exact ct_Re_rounded_100 v3 v7 (v9 + (1 : Int64))
def t_Re_rounded_59 (v3 : Int32) (v5 : Int64) (v7 : Int32) (v8 : Int32) : Int64 := (cond (cn2 .le v8 (63 : Int32)) (cond (cn1 .gt (lg_cmp (v5 &&& (((1 : Int64) <<< (Int32.toInt64 v8 &&& 63)) - (1 : Int64))) ((1 : Int64) <<< (Int32.toInt64 (v8 - (1 : Int32)) &&& 63)))) (t_Re_rounded_96 v3 v7 ((Int64.toUInt64 v5 >>> (Int64.toUInt64 (Int32.toInt64 v8) &&& Int64.toUInt64 63)).toInt64)) (cond (cn1 .ne (lg_cmp (v5 &&& (((1 : Int64) <<< (Int32.toInt64 v8 &&& 63)) - (1 : Int64))) ((1 : Int64) <<< (Int32.toInt64 (v8 - (1 : Int32)) &&& 63)))) (t_Re_rounded_100 v3 v7 ((Int64.toUInt64 v5 >>> (Int64.toUInt64 (Int32.toInt64 v8) &&& Int64.toUInt64 63)).toInt64)) (cond (cn1 .ne (lg_cmp (((Int64.toUInt64 v5 >>> (Int64.toUInt64 (Int32.toInt64 v8) &&& Int64.toUInt64 63)).toInt64) &&& (1 : Int64)) (1 : Int64))) (t_Re_rounded_100 v3 v7 ((Int64.toUInt64 v5 >>> (Int64.toUInt64 (Int32.toInt64 v8) &&& Int64.toUInt64 63)).toInt64)) (t_Re_rounded_96 v3 v7 ((Int64.toUInt64 v5 >>> (Int64.toUInt64 (Int32.toInt64 v8) &&& Int64.toUInt64 63)).toInt64))))) (0 : Int64))
theorem ct_Re_rounded_59 {d : Nat} {P : AP} (v3 : Int32) (v5 : Int64) (v7 : Int32) (v8 : Int32) : X m_Re_rounded (d) 59 [none, none, none, some (.inl v3), none, some (.inr (.inl v5)), none, some (.inl v7), some (.inl v8), none, none, none, none, none, none] [] P (qL P (t_Re_rounded_59 v3 v5 v7 v8)) := by
  unfold t_Re_rounded_59
  refine X_run 3 (i1 := cond (cn2 .le v8 (63 : Int32)) 64 62) (L1 := [none, none, none, some (.inl v3), none, some (.inr (.inl v5)), none, some (.inl v7), some (.inl v8), none, none, none, none, none, none]) (st1 := []) rfl ?_
  refine X_brq (fun hb61 => ?_) (fun hb61 => ?_)
  · refine X_run 22 (i1 := cond (cn1 .gt (lg_cmp (v5 &&& (((1 : Int64) <<< (Int32.toInt64 v8 &&& 63)) - (1 : Int64))) ((1 : Int64) <<< (Int32.toInt64 (v8 - (1 : Int32)) &&& 63)))) 96 86) (L1 := [none, none, none, some (.inl v3), none, some (.inr (.inl v5)), none, some (.inl v7), some (.inl v8), some (.inr (.inl ((Int64.toUInt64 v5 >>> (Int64.toUInt64 (Int32.toInt64 v8) &&& Int64.toUInt64 63)).toInt64))), none, some (.inr (.inl (v5 &&& (((1 : Int64) <<< (Int32.toInt64 v8 &&& 63)) - (1 : Int64))))), none, some (.inr (.inl ((1 : Int64) <<< (Int32.toInt64 (v8 - (1 : Int32)) &&& 63)))), none]) (st1 := []) rfl ?_
    refine X_brq (fun hb85 => ?_) (fun hb85 => ?_)
    · refine X_mask [true, true, true, true, true, false, true, true, false, true, true, false, true, false, true] ?_
      exact ct_Re_rounded_96 v3 v7 ((Int64.toUInt64 v5 >>> (Int64.toUInt64 (Int32.toInt64 v8) &&& Int64.toUInt64 63)).toInt64)
    · refine X_run 4 (i1 := cond (cn1 .ne (lg_cmp (v5 &&& (((1 : Int64) <<< (Int32.toInt64 v8 &&& 63)) - (1 : Int64))) ((1 : Int64) <<< (Int32.toInt64 (v8 - (1 : Int32)) &&& 63)))) 100 90) (L1 := [none, none, none, some (.inl v3), none, some (.inr (.inl v5)), none, some (.inl v7), some (.inl v8), some (.inr (.inl ((Int64.toUInt64 v5 >>> (Int64.toUInt64 (Int32.toInt64 v8) &&& Int64.toUInt64 63)).toInt64))), none, some (.inr (.inl (v5 &&& (((1 : Int64) <<< (Int32.toInt64 v8 &&& 63)) - (1 : Int64))))), none, some (.inr (.inl ((1 : Int64) <<< (Int32.toInt64 (v8 - (1 : Int32)) &&& 63)))), none]) (st1 := []) rfl ?_
      refine X_brq (fun hb89 => ?_) (fun hb89 => ?_)
      · refine X_mask [true, true, true, true, true, false, true, true, false, true, true, false, true, false, true] ?_
        exact ct_Re_rounded_100 v3 v7 ((Int64.toUInt64 v5 >>> (Int64.toUInt64 (Int32.toInt64 v8) &&& Int64.toUInt64 63)).toInt64)
      · refine X_run 6 (i1 := cond (cn1 .ne (lg_cmp (((Int64.toUInt64 v5 >>> (Int64.toUInt64 (Int32.toInt64 v8) &&& Int64.toUInt64 63)).toInt64) &&& (1 : Int64)) (1 : Int64))) 100 96) (L1 := [none, none, none, some (.inl v3), none, some (.inr (.inl v5)), none, some (.inl v7), some (.inl v8), some (.inr (.inl ((Int64.toUInt64 v5 >>> (Int64.toUInt64 (Int32.toInt64 v8) &&& Int64.toUInt64 63)).toInt64))), none, some (.inr (.inl (v5 &&& (((1 : Int64) <<< (Int32.toInt64 v8 &&& 63)) - (1 : Int64))))), none, some (.inr (.inl ((1 : Int64) <<< (Int32.toInt64 (v8 - (1 : Int32)) &&& 63)))), none]) (st1 := []) rfl ?_
        refine X_brq (fun hb95 => ?_) (fun hb95 => ?_)
        · refine X_mask [true, true, true, true, true, false, true, true, false, true, true, false, true, false, true] ?_
          exact ct_Re_rounded_100 v3 v7 ((Int64.toUInt64 v5 >>> (Int64.toUInt64 (Int32.toInt64 v8) &&& Int64.toUInt64 63)).toInt64)
        · refine X_mask [true, true, true, true, true, false, true, true, false, true, true, false, true, false, true] ?_
          exact ct_Re_rounded_96 v3 v7 ((Int64.toUInt64 v5 >>> (Int64.toUInt64 (Int32.toInt64 v8) &&& Int64.toUInt64 63)).toInt64)
  · refine X_run 1 (i1 := 63) (L1 := [none, none, none, some (.inl v3), none, some (.inr (.inl v5)), none, some (.inl v7), some (.inl v8), none, none, none, none, none, none]) (st1 := [.inr (.inl (0 : Int64))]) rfl ?_
    exact X_lret rfl rfl ⟨rfl, rfl⟩
def t_Re_rounded_30 (v3 : Int32) (v4 : Int32) (v5 : Int64) (v7 : Int32) : Int64 := (cond (cn2 .le v7 ((2 : Int32) * v4)) (cond (cn2 .ge v7 (1 : Int32)) (t_Re_rounded_59 v3 v5 v7 ((62 : Int32) - v3)) (t_Re_rounded_59 v3 v5 (1 : Int32) (((62 : Int32) - v3) + ((1 : Int32) - v7)))) ((((2 : Int64) * (Int32.toInt64 v4)) + (1 : Int64)) <<< (Int32.toInt64 v3 &&& 63)))
theorem ct_Re_rounded_30 {d : Nat} {P : AP} (v3 : Int32) (v4 : Int32) (v5 : Int64) (v7 : Int32) : X m_Re_rounded (d) 30 [none, none, none, some (.inl v3), some (.inl v4), some (.inr (.inl v5)), none, some (.inl v7), none, none, none, none, none, none, none] [] P (qL P (t_Re_rounded_30 v3 v4 v5 v7)) := by
  unfold t_Re_rounded_30
  refine X_run 5 (i1 := cond (cn2 .le v7 ((2 : Int32) * v4)) 44 35) (L1 := [none, none, none, some (.inl v3), some (.inl v4), some (.inr (.inl v5)), none, some (.inl v7), none, none, none, none, none, none, none]) (st1 := []) rfl ?_
  refine X_brq (fun hb34 => ?_) (fun hb34 => ?_)
  · refine X_run 7 (i1 := cond (cn2 .ge v7 (1 : Int32)) 59 51) (L1 := [none, none, none, some (.inl v3), some (.inl v4), some (.inr (.inl v5)), none, some (.inl v7), some (.inl ((62 : Int32) - v3)), none, none, none, none, none, none]) (st1 := []) rfl ?_
    refine X_brq (fun hb50 => ?_) (fun hb50 => ?_)
    · refine X_mask [true, true, true, true, false, true, true, true, true, true, true, true, true, true, true] ?_
      exact ct_Re_rounded_59 v3 v5 v7 ((62 : Int32) - v3)
    · refine X_run 8 (i1 := 59) (L1 := [none, none, none, some (.inl v3), some (.inl v4), some (.inr (.inl v5)), none, some (.inl (1 : Int32)), some (.inl (((62 : Int32) - v3) + ((1 : Int32) - v7))), none, none, none, none, none, none]) (st1 := []) rfl ?_
      refine X_mask [true, true, true, true, false, true, true, true, true, true, true, true, true, true, true] ?_
      exact ct_Re_rounded_59 v3 v5 (1 : Int32) (((62 : Int32) - v3) + ((1 : Int32) - v7))
  · refine X_run 8 (i1 := 43) (L1 := [none, none, none, some (.inl v3), some (.inl v4), some (.inr (.inl v5)), none, some (.inl v7), none, none, none, none, none, none, none]) (st1 := [.inr (.inl ((((2 : Int64) * (Int32.toInt64 v4)) + (1 : Int64)) <<< (Int32.toInt64 v3 &&& 63)))]) rfl ?_
    exact X_lret rfl rfl ⟨rfl, rfl⟩
def t_Re_rounded_16 : Nat → Int32 → Int32 → Int64 → Int32 → Int32 → Int64
  | 0, _, _, _, _, _ => 0
  | n + 1, v3, v4, v5, v7, v8 => (cond (cn2 .ge v8 (62 : Int32)) (t_Re_rounded_30 v3 v4 v5 v7) (cond (cn1 .ge (lg_cmp v5 (4611686018427387904 : Int64))) (t_Re_rounded_30 v3 v4 v5 v7) (t_Re_rounded_16 n v3 v4 (v5 <<< (Int32.toInt64 (1 : Int32) &&& 63)) (v7 + Int32.ofInt (-1)) (v8 + Int32.ofInt (1)))))
theorem ct_Re_rounded_16 {d : Nat} {P : AP} : ∀ (n : Nat) (v3 : Int32) (v4 : Int32) (v5 : Int64) (v7 : Int32) (v8 : Int32), 0 ≤ v8.toInt ∧ v8.toInt ≤ 62 ∧ 62 - v8.toInt < n → X m_Re_rounded (d) 16 [none, none, none, some (.inl v3), some (.inl v4), some (.inr (.inl v5)), none, some (.inl v7), some (.inl v8), none, none, none, none, none, none] [] P (qL P (t_Re_rounded_16 n v3 v4 v5 v7 v8))
  | 0, v3, v4, v5, v7, v8, hI => by exfalso; omega
  | n + 1, v3, v4, v5, v7, v8, hI => by
    have ih := @ct_Re_rounded_16 d P n
    unfold t_Re_rounded_16
    refine X_run 3 (i1 := cond (cn2 .ge v8 (62 : Int32)) 30 19) (L1 := [none, none, none, some (.inl v3), some (.inl v4), some (.inr (.inl v5)), none, some (.inl v7), some (.inl v8), none, none, none, none, none, none]) (st1 := []) rfl ?_
    refine X_brq (fun hb18 => ?_) (fun hb18 => ?_)
    · refine X_mask [true, true, true, true, true, true, true, true, false, true, true, true, true, true, true] ?_
      exact ct_Re_rounded_30 v3 v4 v5 v7
    · refine X_run 4 (i1 := cond (cn1 .ge (lg_cmp v5 (4611686018427387904 : Int64))) 30 23) (L1 := [none, none, none, some (.inl v3), some (.inl v4), some (.inr (.inl v5)), none, some (.inl v7), some (.inl v8), none, none, none, none, none, none]) (st1 := []) rfl ?_
      refine X_brq (fun hb22 => ?_) (fun hb22 => ?_)
      · refine X_mask [true, true, true, true, true, true, true, true, false, true, true, true, true, true, true] ?_
        exact ct_Re_rounded_30 v3 v4 v5 v7
      · refine X_run 7 (i1 := 16) (L1 := [none, none, none, some (.inl v3), some (.inl v4), some (.inr (.inl (v5 <<< (Int32.toInt64 (1 : Int32) &&& 63)))), none, some (.inl (v7 + Int32.ofInt (-1))), some (.inl (v8 + Int32.ofInt (1))), none, none, none, none, none, none]) (st1 := []) rfl ?_
        exact ih v3 v4 (v5 <<< (Int32.toInt64 (1 : Int32) &&& 63)) (v7 + Int32.ofInt (-1)) (v8 + Int32.ofInt (1)) (by have h1 := i_ge_f hb18; have h2 : (62 : Int32).toInt = 62 := (by decide); have h3 := i_add (x := v8) 1 (by omega) (by omega) (by omega) (by omega); omega)
def f_Re_rounded (a0 : Int64) (a1 : Int32) (a2 : Int32) (a3 : Int32) : Int64 := (cond (cn1 .ne (lg_cmp a0 (0 : Int64))) (t_Re_rounded_16 63 a2 a3 a0 ((a1 + (62 : Int32)) + a3) (0 : Int32)) (0 : Int64))
theorem c_Re_rounded {d : Nat} {P : AP} (a0 : Int64) (a1 : Int32) (a2 : Int32) (a3 : Int32) : X m_Re_rounded (d) 0 (entL 15 [.inr (.inl a0), .inl a1, .inl a2, .inl a3]) [] P (qL P (f_Re_rounded a0 a1 a2 a3)) := by
  unfold f_Re_rounded
  refine X_run 4 (i1 := cond (cn1 .ne (lg_cmp a0 (0 : Int64))) 6 4) (L1 := [some (.inr (.inl a0)), none, some (.inl a1), some (.inl a2), some (.inl a3), none, none, none, none, none, none, none, none, none, none]) (st1 := []) rfl ?_
  refine X_brq (fun hb3 => ?_) (fun hb3 => ?_)
  · refine X_run 10 (i1 := 16) (L1 := [some (.inr (.inl a0)), none, some (.inl a1), some (.inl a2), some (.inl a3), some (.inr (.inl a0)), none, some (.inl ((a1 + (62 : Int32)) + a3)), some (.inl (0 : Int32)), none, none, none, none, none, none]) (st1 := []) rfl ?_
    refine X_mask [false, true, false, true, true, true, true, true, true, true, true, true, true, true, true] ?_
    exact ct_Re_rounded_16 63 a2 a3 a0 ((a1 + (62 : Int32)) + a3) (0 : Int32) (by exact ⟨by decide, by decide, by decide⟩)
  · refine X_run 1 (i1 := 5) (L1 := [some (.inr (.inl a0)), none, some (.inl a1), some (.inl a2), some (.inl a3), none, none, none, none, none, none, none, none, none, none]) (st1 := [.inr (.inl (0 : Int64))]) rfl ?_
    exact X_lret rfl rfl ⟨rfl, rfl⟩
def t_Re_ofInt_5 (v0 : Int32) (w0 : Int64) : Int64 := (w0 ||| (f_Re_rounded (if 0 < (Int32.toInt64 v0) then (Int32.toInt64 v0) else -(Int32.toInt64 v0)) (0 : Int32) (52 : Int32) (1023 : Int32)))
theorem ct_Re_ofInt_5 {d : Nat} {P : AP} (v0 : Int32) (w0 : Int64) : X m_Re_ofInt (d + 1) 5 [some (.inl v0)] [.inr (.inl w0)] P (qL P (t_Re_ofInt_5 v0 w0)) := by
  unfold t_Re_ofInt_5
  refine X_run 2 (i1 := 7) (L1 := [some (.inl v0)]) (st1 := [.inr (.inl (Int32.toInt64 v0)), .inr (.inl w0)]) rfl ?_
  refine X_mabs rfl (Nat.le_of_ble_eq_true rfl) ?_
  refine X_run 3 (i1 := 11) (L1 := [some (.inl v0)]) (st1 := [.inl (1023 : Int32), .inl (52 : Int32), .inl (0 : Int32), .inr (.inl (if 0 < (Int32.toInt64 v0) then (Int32.toInt64 v0) else -(Int32.toInt64 v0))), .inr (.inl w0)]) rfl ?_
  refine X_calls m_Re_rounded (As := [.inr (.inl (if 0 < (Int32.toInt64 v0) then (Int32.toInt64 v0) else -(Int32.toInt64 v0))), .inl (0 : Int32), .inl (52 : Int32), .inl (1023 : Int32)]) (st := [.inr (.inl w0)]) ok_Re_rounded rfl rfl rfl (Nat.le_of_ble_eq_true rfl) (Nat.le_of_ble_eq_true rfl) (c_Re_rounded (d := d) (if 0 < (Int32.toInt64 v0) then (Int32.toInt64 v0) else -(Int32.toInt64 v0)) (0 : Int32) (52 : Int32) (1023 : Int32)) ?_
  rintro _ _ ⟨rfl, rfl⟩
  show X _ _ 12 [some (.inl v0)] [.inr (.inl (f_Re_rounded (if 0 < (Int32.toInt64 v0) then (Int32.toInt64 v0) else -(Int32.toInt64 v0)) (0 : Int32) (52 : Int32) (1023 : Int32))), .inr (.inl w0)] _ _
  refine X_run 1 (i1 := 13) (L1 := [some (.inl v0)]) (st1 := [.inr (.inl (w0 ||| (f_Re_rounded (if 0 < (Int32.toInt64 v0) then (Int32.toInt64 v0) else -(Int32.toInt64 v0)) (0 : Int32) (52 : Int32) (1023 : Int32))))]) rfl ?_
  exact X_lret rfl rfl ⟨rfl, rfl⟩
def f_Re_ofInt (a0 : Int32) : Int64 := (cond (cn1 .ge a0) (t_Re_ofInt_5 a0 (0 : Int64)) (t_Re_ofInt_5 a0 (-9223372036854775808 : Int64)))
theorem c_Re_ofInt {d : Nat} {P : AP} (a0 : Int32) : X m_Re_ofInt (d + 1) 0 (entL 1 [.inl a0]) [] P (qL P (f_Re_ofInt a0)) := by
  unfold f_Re_ofInt
  refine X_run 2 (i1 := cond (cn1 .ge a0) 4 2) (L1 := [some (.inl a0)]) (st1 := []) rfl ?_
  refine X_brq (fun hb1 => ?_) (fun hb1 => ?_)
  · refine X_run 1 (i1 := 5) (L1 := [some (.inl a0)]) (st1 := [.inr (.inl (0 : Int64))]) rfl ?_
    exact ct_Re_ofInt_5 a0 (0 : Int64)
  · refine X_run 2 (i1 := 5) (L1 := [some (.inl a0)]) (st1 := [.inr (.inl (-9223372036854775808 : Int64))]) rfl ?_
    exact ct_Re_ofInt_5 a0 (-9223372036854775808 : Int64)
def t_Re_toFloat_12 (v0 : Int64) (w0 : Int32) : Int32 := (cond (cn1 .ne (lg_cmp (f_Re_size v0) (9218868437227405312 : Int64))) (w0 ||| (Int64.toInt32 (f_Re_rounded (f_Re_mantissa v0) (f_Re_exponent v0) (23 : Int32) (127 : Int32)))) (w0 ||| (2139095040 : Int32)))
theorem ct_Re_toFloat_12 {d : Nat} {P : AP} (v0 : Int64) (w0 : Int32) : X m_Re_toFloat (d + 2) 12 [some (.inr (.inl v0)), none, none] [.inl w0] P (qI P (t_Re_toFloat_12 v0 w0)) := by
  unfold t_Re_toFloat_12
  refine X_run 2 (i1 := 14) (L1 := [some (.inr (.inl v0)), none, some (.inl w0)]) (st1 := [.inr (.inl v0)]) rfl ?_
  refine X_calls m_Re_size (As := [.inr (.inl v0)]) (st := []) ok_Re_size rfl rfl rfl (Nat.le_of_ble_eq_true rfl) (Nat.le_of_ble_eq_true rfl) (c_Re_size (d := d + 1) v0) ?_
  rintro _ _ ⟨rfl, rfl⟩
  show X _ _ 15 [some (.inr (.inl v0)), none, some (.inl w0)] [.inr (.inl (f_Re_size v0))] _ _
  refine X_run 3 (i1 := cond (cn1 .ne (lg_cmp (f_Re_size v0) (9218868437227405312 : Int64))) 22 18) (L1 := [some (.inr (.inl v0)), none, some (.inl w0)]) (st1 := []) rfl ?_
  refine X_brq (fun hb17 => ?_) (fun hb17 => ?_)
  · refine X_run 2 (i1 := 24) (L1 := [some (.inr (.inl v0)), none, some (.inl w0)]) (st1 := [.inr (.inl v0), .inl w0]) rfl ?_
    refine X_calls m_Re_mantissa (As := [.inr (.inl v0)]) (st := [.inl w0]) ok_Re_mantissa rfl rfl rfl (Nat.le_of_ble_eq_true rfl) (Nat.le_of_ble_eq_true rfl) (c_Re_mantissa (d := d + 1) v0) ?_
    rintro _ _ ⟨rfl, rfl⟩
    show X _ _ 25 [some (.inr (.inl v0)), none, some (.inl w0)] [.inr (.inl (f_Re_mantissa v0)), .inl w0] _ _
    refine X_run 1 (i1 := 26) (L1 := [some (.inr (.inl v0)), none, some (.inl w0)]) (st1 := [.inr (.inl v0), .inr (.inl (f_Re_mantissa v0)), .inl w0]) rfl ?_
    refine X_calls m_Re_exponent (As := [.inr (.inl v0)]) (st := [.inr (.inl (f_Re_mantissa v0)), .inl w0]) ok_Re_exponent rfl rfl rfl (Nat.le_of_ble_eq_true rfl) (Nat.le_of_ble_eq_true rfl) (c_Re_exponent (d := d) v0) ?_
    rintro _ _ ⟨rfl, rfl⟩
    show X _ _ 27 [some (.inr (.inl v0)), none, some (.inl w0)] [.inl (f_Re_exponent v0), .inr (.inl (f_Re_mantissa v0)), .inl w0] _ _
    refine X_run 2 (i1 := 29) (L1 := [some (.inr (.inl v0)), none, some (.inl w0)]) (st1 := [.inl (127 : Int32), .inl (23 : Int32), .inl (f_Re_exponent v0), .inr (.inl (f_Re_mantissa v0)), .inl w0]) rfl ?_
    refine X_calls m_Re_rounded (As := [.inr (.inl (f_Re_mantissa v0)), .inl (f_Re_exponent v0), .inl (23 : Int32), .inl (127 : Int32)]) (st := [.inl w0]) ok_Re_rounded rfl rfl rfl (Nat.le_of_ble_eq_true rfl) (Nat.le_of_ble_eq_true rfl) (c_Re_rounded (d := d + 1) (f_Re_mantissa v0) (f_Re_exponent v0) (23 : Int32) (127 : Int32)) ?_
    rintro _ _ ⟨rfl, rfl⟩
    show X _ _ 30 [some (.inr (.inl v0)), none, some (.inl w0)] [.inr (.inl (f_Re_rounded (f_Re_mantissa v0) (f_Re_exponent v0) (23 : Int32) (127 : Int32))), .inl w0] _ _
    refine X_run 2 (i1 := 32) (L1 := [some (.inr (.inl v0)), none, some (.inl w0)]) (st1 := [.inl (w0 ||| (Int64.toInt32 (f_Re_rounded (f_Re_mantissa v0) (f_Re_exponent v0) (23 : Int32) (127 : Int32))))]) rfl ?_
    exact X_iret rfl rfl ⟨rfl, rfl⟩
  · refine X_run 3 (i1 := 21) (L1 := [some (.inr (.inl v0)), none, some (.inl w0)]) (st1 := [.inl (w0 ||| (2139095040 : Int32))]) rfl ?_
    exact X_iret rfl rfl ⟨rfl, rfl⟩
def f_Re_toFloat (a0 : Int64) : Int32 := (cond (cn1 .eq (b2i (f_Re_isNan a0))) (cond (cn1 .ge (lg_cmp a0 (0 : Int64))) (t_Re_toFloat_12 a0 (0 : Int32)) (t_Re_toFloat_12 a0 (-2147483648 : Int32))) (2143289344 : Int32))
theorem c_Re_toFloat {d : Nat} {P : AP} (a0 : Int64) : X m_Re_toFloat (d + 2) 0 (entL 3 [.inr (.inl a0)]) [] P (qI P (f_Re_toFloat a0)) := by
  unfold f_Re_toFloat
  refine X_run 1 (i1 := 1) (L1 := [some (.inr (.inl a0)), none, none]) (st1 := [.inr (.inl a0)]) rfl ?_
  refine X_calls m_Re_isNan (As := [.inr (.inl a0)]) (st := []) ok_Re_isNan rfl rfl rfl (Nat.le_of_ble_eq_true rfl) (Nat.le_of_ble_eq_true rfl) (c_Re_isNan (d := d + 1) a0) ?_
  rintro _ _ ⟨rfl, rfl⟩
  show X _ _ 2 [some (.inr (.inl a0)), none, none] [.inl (b2i (f_Re_isNan a0))] _ _
  refine X_run 1 (i1 := cond (cn1 .eq (b2i (f_Re_isNan a0))) 5 3) (L1 := [some (.inr (.inl a0)), none, none]) (st1 := []) rfl ?_
  refine X_brq (fun hb2 => ?_) (fun hb2 => ?_)
  · refine X_run 4 (i1 := cond (cn1 .ge (lg_cmp a0 (0 : Int64))) 11 9) (L1 := [some (.inr (.inl a0)), none, none]) (st1 := []) rfl ?_
    refine X_brq (fun hb8 => ?_) (fun hb8 => ?_)
    · refine X_run 1 (i1 := 12) (L1 := [some (.inr (.inl a0)), none, none]) (st1 := [.inl (0 : Int32)]) rfl ?_
      exact ct_Re_toFloat_12 a0 (0 : Int32)
    · refine X_run 2 (i1 := 12) (L1 := [some (.inr (.inl a0)), none, none]) (st1 := [.inl (-2147483648 : Int32)]) rfl ?_
      exact ct_Re_toFloat_12 a0 (-2147483648 : Int32)
  · refine X_run 1 (i1 := 4) (L1 := [some (.inr (.inl a0)), none, none]) (st1 := [.inl (2143289344 : Int32)]) rfl ?_
    exact X_iret rfl rfl ⟨rfl, rfl⟩
def t_Re_ofFloat_37 (v1 : Int64) (v3 : Int32) (w0 : Int64) : Int64 := (v1 ||| (f_Re_rounded w0 (((if v3 < (1 : Int32) then (1 : Int32) else v3) - (127 : Int32)) - (23 : Int32)) (52 : Int32) (1023 : Int32)))
theorem ct_Re_ofFloat_37 {d : Nat} {P : AP} (v1 : Int64) (v3 : Int32) (w0 : Int64) : X m_Re_ofFloat (d + 1) 37 [none, some (.inr (.inl v1)), none, some (.inl v3), none, none, none, none, none] [.inr (.inl w0)] P (qL P (t_Re_ofFloat_37 v1 v3 w0)) := by
  unfold t_Re_ofFloat_37
  refine X_run 3 (i1 := 40) (L1 := [none, some (.inr (.inl v1)), none, some (.inl v3), none, none, some (.inr (.inl w0)), none, none]) (st1 := [.inl (1 : Int32), .inl v3]) rfl ?_
  refine X_mmax rfl (Nat.le_of_ble_eq_true rfl) ?_
  refine X_run 10 (i1 := 51) (L1 := [none, some (.inr (.inl v1)), none, some (.inl v3), none, none, some (.inr (.inl w0)), none, some (.inl (((if v3 < (1 : Int32) then (1 : Int32) else v3) - (127 : Int32)) - (23 : Int32)))]) (st1 := [.inl (1023 : Int32), .inl (52 : Int32), .inl (((if v3 < (1 : Int32) then (1 : Int32) else v3) - (127 : Int32)) - (23 : Int32)), .inr (.inl w0), .inr (.inl v1)]) rfl ?_
  refine X_calls m_Re_rounded (As := [.inr (.inl w0), .inl (((if v3 < (1 : Int32) then (1 : Int32) else v3) - (127 : Int32)) - (23 : Int32)), .inl (52 : Int32), .inl (1023 : Int32)]) (st := [.inr (.inl v1)]) ok_Re_rounded rfl rfl rfl (Nat.le_of_ble_eq_true rfl) (Nat.le_of_ble_eq_true rfl) (c_Re_rounded (d := d) w0 (((if v3 < (1 : Int32) then (1 : Int32) else v3) - (127 : Int32)) - (23 : Int32)) (52 : Int32) (1023 : Int32)) ?_
  rintro _ _ ⟨rfl, rfl⟩
  show X _ _ 52 [none, some (.inr (.inl v1)), none, some (.inl v3), none, none, some (.inr (.inl w0)), none, some (.inl (((if v3 < (1 : Int32) then (1 : Int32) else v3) - (127 : Int32)) - (23 : Int32)))] [.inr (.inl (f_Re_rounded w0 (((if v3 < (1 : Int32) then (1 : Int32) else v3) - (127 : Int32)) - (23 : Int32)) (52 : Int32) (1023 : Int32))), .inr (.inl v1)] _ _
  refine X_run 1 (i1 := 53) (L1 := [none, some (.inr (.inl v1)), none, some (.inl v3), none, none, some (.inr (.inl w0)), none, some (.inl (((if v3 < (1 : Int32) then (1 : Int32) else v3) - (127 : Int32)) - (23 : Int32)))]) (st1 := [.inr (.inl (v1 ||| (f_Re_rounded w0 (((if v3 < (1 : Int32) then (1 : Int32) else v3) - (127 : Int32)) - (23 : Int32)) (52 : Int32) (1023 : Int32))))]) rfl ?_
  exact X_lret rfl rfl ⟨rfl, rfl⟩
def t_Re_ofFloat_5 (v0 : Int32) (w0 : Int64) : Int64 := (cond (cn2 .ne (((Int32.toUInt32 v0 >>> (Int32.toUInt32 (23 : Int32) &&& Int32.toUInt32 31)).toInt32) &&& (255 : Int32)) (255 : Int32)) (cond (cn1 .ne (((Int32.toUInt32 v0 >>> (Int32.toUInt32 (23 : Int32) &&& Int32.toUInt32 31)).toInt32) &&& (255 : Int32))) (t_Re_ofFloat_37 w0 (((Int32.toUInt32 v0 >>> (Int32.toUInt32 (23 : Int32) &&& Int32.toUInt32 31)).toInt32) &&& (255 : Int32)) (((Int32.toInt64 v0) &&& (8388607 : Int64)) ||| (8388608 : Int64))) (t_Re_ofFloat_37 w0 (((Int32.toUInt32 v0 >>> (Int32.toUInt32 (23 : Int32) &&& Int32.toUInt32 31)).toInt32) &&& (255 : Int32)) ((Int32.toInt64 v0) &&& (8388607 : Int64)))) (cond (cn1 .ne (lg_cmp ((Int32.toInt64 v0) &&& (8388607 : Int64)) (0 : Int64))) (9221120237041090560 : Int64) (w0 ||| (9218868437227405312 : Int64))))
theorem ct_Re_ofFloat_5 {d : Nat} {P : AP} (v0 : Int32) (w0 : Int64) : X m_Re_ofFloat (d + 1) 5 [some (.inl v0), none, none, none, none, none, none, none, none] [.inr (.inl w0)] P (qL P (t_Re_ofFloat_5 v0 w0)) := by
  unfold t_Re_ofFloat_5
  refine X_run 15 (i1 := cond (cn2 .ne (((Int32.toUInt32 v0 >>> (Int32.toUInt32 (23 : Int32) &&& Int32.toUInt32 31)).toInt32) &&& (255 : Int32)) (255 : Int32)) 30 20) (L1 := [some (.inl v0), some (.inr (.inl w0)), none, some (.inl (((Int32.toUInt32 v0 >>> (Int32.toUInt32 (23 : Int32) &&& Int32.toUInt32 31)).toInt32) &&& (255 : Int32))), some (.inr (.inl ((Int32.toInt64 v0) &&& (8388607 : Int64)))), none, none, none, none]) (st1 := []) rfl ?_
  refine X_brq (fun hb19 => ?_) (fun hb19 => ?_)
  · refine X_run 2 (i1 := cond (cn1 .ne (((Int32.toUInt32 v0 >>> (Int32.toUInt32 (23 : Int32) &&& Int32.toUInt32 31)).toInt32) &&& (255 : Int32))) 34 32) (L1 := [some (.inl v0), some (.inr (.inl w0)), none, some (.inl (((Int32.toUInt32 v0 >>> (Int32.toUInt32 (23 : Int32) &&& Int32.toUInt32 31)).toInt32) &&& (255 : Int32))), some (.inr (.inl ((Int32.toInt64 v0) &&& (8388607 : Int64)))), none, none, none, none]) (st1 := []) rfl ?_
    refine X_brq (fun hb31 => ?_) (fun hb31 => ?_)
    · refine X_run 3 (i1 := 37) (L1 := [some (.inl v0), some (.inr (.inl w0)), none, some (.inl (((Int32.toUInt32 v0 >>> (Int32.toUInt32 (23 : Int32) &&& Int32.toUInt32 31)).toInt32) &&& (255 : Int32))), some (.inr (.inl ((Int32.toInt64 v0) &&& (8388607 : Int64)))), none, none, none, none]) (st1 := [.inr (.inl (((Int32.toInt64 v0) &&& (8388607 : Int64)) ||| (8388608 : Int64)))]) rfl ?_
      refine X_mask [false, true, true, true, false, true, true, true, true] ?_
      exact ct_Re_ofFloat_37 w0 (((Int32.toUInt32 v0 >>> (Int32.toUInt32 (23 : Int32) &&& Int32.toUInt32 31)).toInt32) &&& (255 : Int32)) (((Int32.toInt64 v0) &&& (8388607 : Int64)) ||| (8388608 : Int64))
    · refine X_run 2 (i1 := 37) (L1 := [some (.inl v0), some (.inr (.inl w0)), none, some (.inl (((Int32.toUInt32 v0 >>> (Int32.toUInt32 (23 : Int32) &&& Int32.toUInt32 31)).toInt32) &&& (255 : Int32))), some (.inr (.inl ((Int32.toInt64 v0) &&& (8388607 : Int64)))), none, none, none, none]) (st1 := [.inr (.inl ((Int32.toInt64 v0) &&& (8388607 : Int64)))]) rfl ?_
      refine X_mask [false, true, true, true, false, true, true, true, true] ?_
      exact ct_Re_ofFloat_37 w0 (((Int32.toUInt32 v0 >>> (Int32.toUInt32 (23 : Int32) &&& Int32.toUInt32 31)).toInt32) &&& (255 : Int32)) ((Int32.toInt64 v0) &&& (8388607 : Int64))
  · refine X_run 4 (i1 := cond (cn1 .ne (lg_cmp ((Int32.toInt64 v0) &&& (8388607 : Int64)) (0 : Int64))) 28 24) (L1 := [some (.inl v0), some (.inr (.inl w0)), none, some (.inl (((Int32.toUInt32 v0 >>> (Int32.toUInt32 (23 : Int32) &&& Int32.toUInt32 31)).toInt32) &&& (255 : Int32))), some (.inr (.inl ((Int32.toInt64 v0) &&& (8388607 : Int64)))), none, none, none, none]) (st1 := []) rfl ?_
    refine X_brq (fun hb23 => ?_) (fun hb23 => ?_)
    · refine X_run 1 (i1 := 29) (L1 := [some (.inl v0), some (.inr (.inl w0)), none, some (.inl (((Int32.toUInt32 v0 >>> (Int32.toUInt32 (23 : Int32) &&& Int32.toUInt32 31)).toInt32) &&& (255 : Int32))), some (.inr (.inl ((Int32.toInt64 v0) &&& (8388607 : Int64)))), none, none, none, none]) (st1 := [.inr (.inl (9221120237041090560 : Int64))]) rfl ?_
      exact X_lret rfl rfl ⟨rfl, rfl⟩
    · refine X_run 4 (i1 := 29) (L1 := [some (.inl v0), some (.inr (.inl w0)), none, some (.inl (((Int32.toUInt32 v0 >>> (Int32.toUInt32 (23 : Int32) &&& Int32.toUInt32 31)).toInt32) &&& (255 : Int32))), some (.inr (.inl ((Int32.toInt64 v0) &&& (8388607 : Int64)))), none, none, none, none]) (st1 := [.inr (.inl (w0 ||| (9218868437227405312 : Int64)))]) rfl ?_
      exact X_lret rfl rfl ⟨rfl, rfl⟩
def f_Re_ofFloat (a0 : Int32) : Int64 := (cond (cn1 .ge a0) (t_Re_ofFloat_5 a0 (0 : Int64)) (t_Re_ofFloat_5 a0 (-9223372036854775808 : Int64)))
theorem c_Re_ofFloat {d : Nat} {P : AP} (a0 : Int32) : X m_Re_ofFloat (d + 1) 0 (entL 9 [.inl a0]) [] P (qL P (f_Re_ofFloat a0)) := by
  unfold f_Re_ofFloat
  refine X_run 2 (i1 := cond (cn1 .ge a0) 4 2) (L1 := [some (.inl a0), none, none, none, none, none, none, none, none]) (st1 := []) rfl ?_
  refine X_brq (fun hb1 => ?_) (fun hb1 => ?_)
  · refine X_run 1 (i1 := 5) (L1 := [some (.inl a0), none, none, none, none, none, none, none, none]) (st1 := [.inr (.inl (0 : Int64))]) rfl ?_
    exact ct_Re_ofFloat_5 a0 (0 : Int64)
  · refine X_run 2 (i1 := 5) (L1 := [some (.inl a0), none, none, none, none, none, none, none, none]) (st1 := [.inr (.inl (-9223372036854775808 : Int64))]) rfl ?_
    exact ct_Re_ofFloat_5 a0 (-9223372036854775808 : Int64)
def t_Re_sum_90 (v5 : Int64) (v11 : Int64) (w0 : Int64) : Int64 := (w0 ||| (f_Re_rounded v11 ((f_Re_exponent v5) - (9 : Int32)) (52 : Int32) (1023 : Int32)))
theorem ct_Re_sum_90 {d : Nat} {P : AP} (v5 : Int64) (v11 : Int64) (w0 : Int64) : X m_Re_sum (d + 2) 90 [none, none, none, none, none, some (.inr (.inl v5)), none, none, none, none, none, some (.inr (.inl v11)), none, none, none] [.inr (.inl w0)] P (qL P (t_Re_sum_90 v5 v11 w0)) := by
  unfold t_Re_sum_90
  refine X_run 4 (i1 := 94) (L1 := [none, none, none, none, none, some (.inr (.inl v5)), none, none, none, none, none, some (.inr (.inl v11)), none, some (.inr (.inl w0)), none]) (st1 := [.inr (.inl v5), .inr (.inl v11), .inr (.inl w0)]) rfl ?_
  refine X_calls m_Re_exponent (As := [.inr (.inl v5)]) (st := [.inr (.inl v11), .inr (.inl w0)]) ok_Re_exponent rfl rfl rfl (Nat.le_of_ble_eq_true rfl) (Nat.le_of_ble_eq_true rfl) (c_Re_exponent (d := d) v5) ?_
  rintro _ _ ⟨rfl, rfl⟩
  show X _ _ 95 [none, none, none, none, none, some (.inr (.inl v5)), none, none, none, none, none, some (.inr (.inl v11)), none, some (.inr (.inl w0)), none] [.inl (f_Re_exponent v5), .inr (.inl v11), .inr (.inl w0)] _ _
  refine X_run 4 (i1 := 99) (L1 := [none, none, none, none, none, some (.inr (.inl v5)), none, none, none, none, none, some (.inr (.inl v11)), none, some (.inr (.inl w0)), none]) (st1 := [.inl (1023 : Int32), .inl (52 : Int32), .inl ((f_Re_exponent v5) - (9 : Int32)), .inr (.inl v11), .inr (.inl w0)]) rfl ?_
  refine X_calls m_Re_rounded (As := [.inr (.inl v11), .inl ((f_Re_exponent v5) - (9 : Int32)), .inl (52 : Int32), .inl (1023 : Int32)]) (st := [.inr (.inl w0)]) ok_Re_rounded rfl rfl rfl (Nat.le_of_ble_eq_true rfl) (Nat.le_of_ble_eq_true rfl) (c_Re_rounded (d := d + 1) v11 ((f_Re_exponent v5) - (9 : Int32)) (52 : Int32) (1023 : Int32)) ?_
  rintro _ _ ⟨rfl, rfl⟩
  show X _ _ 100 [none, none, none, none, none, some (.inr (.inl v5)), none, none, none, none, none, some (.inr (.inl v11)), none, some (.inr (.inl w0)), none] [.inr (.inl (f_Re_rounded v11 ((f_Re_exponent v5) - (9 : Int32)) (52 : Int32) (1023 : Int32))), .inr (.inl w0)] _ _
  refine X_run 1 (i1 := 101) (L1 := [none, none, none, none, none, some (.inr (.inl v5)), none, none, none, none, none, some (.inr (.inl v11)), none, some (.inr (.inl w0)), none]) (st1 := [.inr (.inl (w0 ||| (f_Re_rounded v11 ((f_Re_exponent v5) - (9 : Int32)) (52 : Int32) (1023 : Int32))))]) rfl ?_
  exact X_lret rfl rfl ⟨rfl, rfl⟩
def t_Re_sum_75 (v0 : Int64) (v2 : Int64) (v5 : Int64) (w0 : Int64) (w1 : Int64) : Int64 := (cond (cn1 .ne (lg_cmp (w1 + w0) (0 : Int64))) (t_Re_sum_90 v5 (w1 + w0) (v5 &&& (-9223372036854775808 : Int64))) (t_Re_sum_90 v5 (w1 + w0) ((v0 &&& v2) &&& (-9223372036854775808 : Int64))))
theorem ct_Re_sum_75 {d : Nat} {P : AP} (v0 : Int64) (v2 : Int64) (v5 : Int64) (w0 : Int64) (w1 : Int64) : X m_Re_sum (d + 2) 75 [some (.inr (.inl v0)), none, some (.inr (.inl v2)), none, none, some (.inr (.inl v5)), none, none, none, none, none, none, none, none, none] [.inr (.inl w0), .inr (.inl w1)] P (qL P (t_Re_sum_75 v0 v2 v5 w0 w1)) := by
  unfold t_Re_sum_75
  refine X_run 6 (i1 := cond (cn1 .ne (lg_cmp (w1 + w0) (0 : Int64))) 87 81) (L1 := [some (.inr (.inl v0)), none, some (.inr (.inl v2)), none, none, some (.inr (.inl v5)), none, none, none, none, none, some (.inr (.inl (w1 + w0))), none, none, none]) (st1 := []) rfl ?_
  refine X_brq (fun hb80 => ?_) (fun hb80 => ?_)
  · refine X_run 3 (i1 := 90) (L1 := [some (.inr (.inl v0)), none, some (.inr (.inl v2)), none, none, some (.inr (.inl v5)), none, none, none, none, none, some (.inr (.inl (w1 + w0))), none, none, none]) (st1 := [.inr (.inl (v5 &&& (-9223372036854775808 : Int64)))]) rfl ?_
    refine X_mask [false, true, false, true, true, true, true, true, true, true, true, true, true, true, true] ?_
    exact ct_Re_sum_90 v5 (w1 + w0) (v5 &&& (-9223372036854775808 : Int64))
  · refine X_run 6 (i1 := 90) (L1 := [some (.inr (.inl v0)), none, some (.inr (.inl v2)), none, none, some (.inr (.inl v5)), none, none, none, none, none, some (.inr (.inl (w1 + w0))), none, none, none]) (st1 := [.inr (.inl ((v0 &&& v2) &&& (-9223372036854775808 : Int64)))]) rfl ?_
    refine X_mask [false, true, false, true, true, true, true, true, true, true, true, true, true, true, true] ?_
    exact ct_Re_sum_90 v5 (w1 + w0) ((v0 &&& v2) &&& (-9223372036854775808 : Int64))
def t_Re_sum_37 (v0 : Int64) (v2 : Int64) (v4 : Int32) (v5 : Int64) (w0 : Int64) : Int64 := (cond (cn1 .ne (lg_cmp (f_Re_size v5) (9218868437227405312 : Int64))) (cond (cn1 .eq v4) (t_Re_sum_75 v0 v2 v5 (-(f_Re_movedRight ((f_Re_mantissa w0) <<< (Int32.toInt64 (9 : Int32) &&& 63)) ((f_Re_exponent v5) - (f_Re_exponent w0)))) ((f_Re_mantissa v5) <<< (Int32.toInt64 (9 : Int32) &&& 63))) (t_Re_sum_75 v0 v2 v5 (f_Re_movedRight ((f_Re_mantissa w0) <<< (Int32.toInt64 (9 : Int32) &&& 63)) ((f_Re_exponent v5) - (f_Re_exponent w0))) ((f_Re_mantissa v5) <<< (Int32.toInt64 (9 : Int32) &&& 63)))) (cond (cn1 .ne (lg_cmp (f_Re_size w0) (9218868437227405312 : Int64))) v5 (cond (cn1 .ne v4) v5 (9221120237041090560 : Int64))))
theorem ct_Re_sum_37 {d : Nat} {P : AP} (v0 : Int64) (v2 : Int64) (v4 : Int32) (v5 : Int64) (w0 : Int64) : X m_Re_sum (d + 2) 37 [some (.inr (.inl v0)), none, some (.inr (.inl v2)), none, some (.inl v4), some (.inr (.inl v5)), none, none, none, none, none, none, none, none, none] [.inr (.inl w0)] P (qL P (t_Re_sum_37 v0 v2 v4 v5 w0)) := by
  unfold t_Re_sum_37
  refine X_run 2 (i1 := 39) (L1 := [some (.inr (.inl v0)), none, some (.inr (.inl v2)), none, some (.inl v4), some (.inr (.inl v5)), none, some (.inr (.inl w0)), none, none, none, none, none, none, none]) (st1 := [.inr (.inl v5)]) rfl ?_
  refine X_calls m_Re_size (As := [.inr (.inl v5)]) (st := []) ok_Re_size rfl rfl rfl (Nat.le_of_ble_eq_true rfl) (Nat.le_of_ble_eq_true rfl) (c_Re_size (d := d + 1) v5) ?_
  rintro _ _ ⟨rfl, rfl⟩
  show X _ _ 40 [some (.inr (.inl v0)), none, some (.inr (.inl v2)), none, some (.inl v4), some (.inr (.inl v5)), none, some (.inr (.inl w0)), none, none, none, none, none, none, none] [.inr (.inl (f_Re_size v5))] _ _
  refine X_run 3 (i1 := cond (cn1 .ne (lg_cmp (f_Re_size v5) (9218868437227405312 : Int64))) 54 43) (L1 := [some (.inr (.inl v0)), none, some (.inr (.inl v2)), none, some (.inl v4), some (.inr (.inl v5)), none, some (.inr (.inl w0)), none, none, none, none, none, none, none]) (st1 := []) rfl ?_
  refine X_brq (fun hb42 => ?_) (fun hb42 => ?_)
  · refine X_run 1 (i1 := 55) (L1 := [some (.inr (.inl v0)), none, some (.inr (.inl v2)), none, some (.inl v4), some (.inr (.inl v5)), none, some (.inr (.inl w0)), none, none, none, none, none, none, none]) (st1 := [.inr (.inl w0)]) rfl ?_
    refine X_calls m_Re_mantissa (As := [.inr (.inl w0)]) (st := []) ok_Re_mantissa rfl rfl rfl (Nat.le_of_ble_eq_true rfl) (Nat.le_of_ble_eq_true rfl) (c_Re_mantissa (d := d + 1) w0) ?_
    rintro _ _ ⟨rfl, rfl⟩
    show X _ _ 56 [some (.inr (.inl v0)), none, some (.inr (.inl v2)), none, some (.inl v4), some (.inr (.inl v5)), none, some (.inr (.inl w0)), none, none, none, none, none, none, none] [.inr (.inl (f_Re_mantissa w0))] _ _
    refine X_run 3 (i1 := 59) (L1 := [some (.inr (.inl v0)), none, some (.inr (.inl v2)), none, some (.inl v4), some (.inr (.inl v5)), none, some (.inr (.inl w0)), none, none, none, none, none, none, none]) (st1 := [.inr (.inl v5), .inr (.inl ((f_Re_mantissa w0) <<< (Int32.toInt64 (9 : Int32) &&& 63)))]) rfl ?_
    refine X_calls m_Re_exponent (As := [.inr (.inl v5)]) (st := [.inr (.inl ((f_Re_mantissa w0) <<< (Int32.toInt64 (9 : Int32) &&& 63)))]) ok_Re_exponent rfl rfl rfl (Nat.le_of_ble_eq_true rfl) (Nat.le_of_ble_eq_true rfl) (c_Re_exponent (d := d) v5) ?_
    rintro _ _ ⟨rfl, rfl⟩
    show X _ _ 60 [some (.inr (.inl v0)), none, some (.inr (.inl v2)), none, some (.inl v4), some (.inr (.inl v5)), none, some (.inr (.inl w0)), none, none, none, none, none, none, none] [.inl (f_Re_exponent v5), .inr (.inl ((f_Re_mantissa w0) <<< (Int32.toInt64 (9 : Int32) &&& 63)))] _ _
    refine X_run 1 (i1 := 61) (L1 := [some (.inr (.inl v0)), none, some (.inr (.inl v2)), none, some (.inl v4), some (.inr (.inl v5)), none, some (.inr (.inl w0)), none, none, none, none, none, none, none]) (st1 := [.inr (.inl w0), .inl (f_Re_exponent v5), .inr (.inl ((f_Re_mantissa w0) <<< (Int32.toInt64 (9 : Int32) &&& 63)))]) rfl ?_
    refine X_calls m_Re_exponent (As := [.inr (.inl w0)]) (st := [.inl (f_Re_exponent v5), .inr (.inl ((f_Re_mantissa w0) <<< (Int32.toInt64 (9 : Int32) &&& 63)))]) ok_Re_exponent rfl rfl rfl (Nat.le_of_ble_eq_true rfl) (Nat.le_of_ble_eq_true rfl) (c_Re_exponent (d := d) w0) ?_
    rintro _ _ ⟨rfl, rfl⟩
    show X _ _ 62 [some (.inr (.inl v0)), none, some (.inr (.inl v2)), none, some (.inl v4), some (.inr (.inl v5)), none, some (.inr (.inl w0)), none, none, none, none, none, none, none] [.inl (f_Re_exponent w0), .inl (f_Re_exponent v5), .inr (.inl ((f_Re_mantissa w0) <<< (Int32.toInt64 (9 : Int32) &&& 63)))] _ _
    refine X_run 1 (i1 := 63) (L1 := [some (.inr (.inl v0)), none, some (.inr (.inl v2)), none, some (.inl v4), some (.inr (.inl v5)), none, some (.inr (.inl w0)), none, none, none, none, none, none, none]) (st1 := [.inl ((f_Re_exponent v5) - (f_Re_exponent w0)), .inr (.inl ((f_Re_mantissa w0) <<< (Int32.toInt64 (9 : Int32) &&& 63)))]) rfl ?_
    refine X_calls m_Re_movedRight (As := [.inr (.inl ((f_Re_mantissa w0) <<< (Int32.toInt64 (9 : Int32) &&& 63))), .inl ((f_Re_exponent v5) - (f_Re_exponent w0))]) (st := []) ok_Re_movedRight rfl rfl rfl (Nat.le_of_ble_eq_true rfl) (Nat.le_of_ble_eq_true rfl) (c_Re_movedRight (d := d + 1) ((f_Re_mantissa w0) <<< (Int32.toInt64 (9 : Int32) &&& 63)) ((f_Re_exponent v5) - (f_Re_exponent w0))) ?_
    rintro _ _ ⟨rfl, rfl⟩
    show X _ _ 64 [some (.inr (.inl v0)), none, some (.inr (.inl v2)), none, some (.inl v4), some (.inr (.inl v5)), none, some (.inr (.inl w0)), none, none, none, none, none, none, none] [.inr (.inl (f_Re_movedRight ((f_Re_mantissa w0) <<< (Int32.toInt64 (9 : Int32) &&& 63)) ((f_Re_exponent v5) - (f_Re_exponent w0))))] _ _
    refine X_run 2 (i1 := 66) (L1 := [some (.inr (.inl v0)), none, some (.inr (.inl v2)), none, some (.inl v4), some (.inr (.inl v5)), none, some (.inr (.inl w0)), none, some (.inr (.inl (f_Re_movedRight ((f_Re_mantissa w0) <<< (Int32.toInt64 (9 : Int32) &&& 63)) ((f_Re_exponent v5) - (f_Re_exponent w0))))), none, none, none, none, none]) (st1 := [.inr (.inl v5)]) rfl ?_
    refine X_calls m_Re_mantissa (As := [.inr (.inl v5)]) (st := []) ok_Re_mantissa rfl rfl rfl (Nat.le_of_ble_eq_true rfl) (Nat.le_of_ble_eq_true rfl) (c_Re_mantissa (d := d + 1) v5) ?_
    rintro _ _ ⟨rfl, rfl⟩
    show X _ _ 67 [some (.inr (.inl v0)), none, some (.inr (.inl v2)), none, some (.inl v4), some (.inr (.inl v5)), none, some (.inr (.inl w0)), none, some (.inr (.inl (f_Re_movedRight ((f_Re_mantissa w0) <<< (Int32.toInt64 (9 : Int32) &&& 63)) ((f_Re_exponent v5) - (f_Re_exponent w0))))), none, none, none, none, none] [.inr (.inl (f_Re_mantissa v5))] _ _
    refine X_run 4 (i1 := cond (cn1 .eq v4) 73 71) (L1 := [some (.inr (.inl v0)), none, some (.inr (.inl v2)), none, some (.inl v4), some (.inr (.inl v5)), none, some (.inr (.inl w0)), none, some (.inr (.inl (f_Re_movedRight ((f_Re_mantissa w0) <<< (Int32.toInt64 (9 : Int32) &&& 63)) ((f_Re_exponent v5) - (f_Re_exponent w0))))), none, none, none, none, none]) (st1 := [.inr (.inl ((f_Re_mantissa v5) <<< (Int32.toInt64 (9 : Int32) &&& 63)))]) rfl ?_
    refine X_brq (fun hb70 => ?_) (fun hb70 => ?_)
    · refine X_run 2 (i1 := 75) (L1 := [some (.inr (.inl v0)), none, some (.inr (.inl v2)), none, some (.inl v4), some (.inr (.inl v5)), none, some (.inr (.inl w0)), none, some (.inr (.inl (f_Re_movedRight ((f_Re_mantissa w0) <<< (Int32.toInt64 (9 : Int32) &&& 63)) ((f_Re_exponent v5) - (f_Re_exponent w0))))), none, none, none, none, none]) (st1 := [.inr (.inl (-(f_Re_movedRight ((f_Re_mantissa w0) <<< (Int32.toInt64 (9 : Int32) &&& 63)) ((f_Re_exponent v5) - (f_Re_exponent w0))))), .inr (.inl ((f_Re_mantissa v5) <<< (Int32.toInt64 (9 : Int32) &&& 63)))]) rfl ?_
      refine X_mask [true, true, true, true, false, true, true, false, true, false, true, true, true, true, true] ?_
      exact ct_Re_sum_75 v0 v2 v5 (-(f_Re_movedRight ((f_Re_mantissa w0) <<< (Int32.toInt64 (9 : Int32) &&& 63)) ((f_Re_exponent v5) - (f_Re_exponent w0)))) ((f_Re_mantissa v5) <<< (Int32.toInt64 (9 : Int32) &&& 63))
    · refine X_run 2 (i1 := 75) (L1 := [some (.inr (.inl v0)), none, some (.inr (.inl v2)), none, some (.inl v4), some (.inr (.inl v5)), none, some (.inr (.inl w0)), none, some (.inr (.inl (f_Re_movedRight ((f_Re_mantissa w0) <<< (Int32.toInt64 (9 : Int32) &&& 63)) ((f_Re_exponent v5) - (f_Re_exponent w0))))), none, none, none, none, none]) (st1 := [.inr (.inl (f_Re_movedRight ((f_Re_mantissa w0) <<< (Int32.toInt64 (9 : Int32) &&& 63)) ((f_Re_exponent v5) - (f_Re_exponent w0)))), .inr (.inl ((f_Re_mantissa v5) <<< (Int32.toInt64 (9 : Int32) &&& 63)))]) rfl ?_
      refine X_mask [true, true, true, true, false, true, true, false, true, false, true, true, true, true, true] ?_
      exact ct_Re_sum_75 v0 v2 v5 (f_Re_movedRight ((f_Re_mantissa w0) <<< (Int32.toInt64 (9 : Int32) &&& 63)) ((f_Re_exponent v5) - (f_Re_exponent w0))) ((f_Re_mantissa v5) <<< (Int32.toInt64 (9 : Int32) &&& 63))
  · refine X_run 1 (i1 := 44) (L1 := [some (.inr (.inl v0)), none, some (.inr (.inl v2)), none, some (.inl v4), some (.inr (.inl v5)), none, some (.inr (.inl w0)), none, none, none, none, none, none, none]) (st1 := [.inr (.inl w0)]) rfl ?_
    refine X_calls m_Re_size (As := [.inr (.inl w0)]) (st := []) ok_Re_size rfl rfl rfl (Nat.le_of_ble_eq_true rfl) (Nat.le_of_ble_eq_true rfl) (c_Re_size (d := d + 1) w0) ?_
    rintro _ _ ⟨rfl, rfl⟩
    show X _ _ 45 [some (.inr (.inl v0)), none, some (.inr (.inl v2)), none, some (.inl v4), some (.inr (.inl v5)), none, some (.inr (.inl w0)), none, none, none, none, none, none, none] [.inr (.inl (f_Re_size w0))] _ _
    refine X_run 3 (i1 := cond (cn1 .ne (lg_cmp (f_Re_size w0) (9218868437227405312 : Int64))) 52 48) (L1 := [some (.inr (.inl v0)), none, some (.inr (.inl v2)), none, some (.inl v4), some (.inr (.inl v5)), none, some (.inr (.inl w0)), none, none, none, none, none, none, none]) (st1 := []) rfl ?_
    refine X_brq (fun hb47 => ?_) (fun hb47 => ?_)
    · refine X_run 1 (i1 := 53) (L1 := [some (.inr (.inl v0)), none, some (.inr (.inl v2)), none, some (.inl v4), some (.inr (.inl v5)), none, some (.inr (.inl w0)), none, none, none, none, none, none, none]) (st1 := [.inr (.inl v5)]) rfl ?_
      exact X_lret rfl rfl ⟨rfl, rfl⟩
    · refine X_run 2 (i1 := cond (cn1 .ne v4) 52 50) (L1 := [some (.inr (.inl v0)), none, some (.inr (.inl v2)), none, some (.inl v4), some (.inr (.inl v5)), none, some (.inr (.inl w0)), none, none, none, none, none, none, none]) (st1 := []) rfl ?_
      refine X_brq (fun hb49 => ?_) (fun hb49 => ?_)
      · refine X_run 1 (i1 := 53) (L1 := [some (.inr (.inl v0)), none, some (.inr (.inl v2)), none, some (.inl v4), some (.inr (.inl v5)), none, some (.inr (.inl w0)), none, none, none, none, none, none, none]) (st1 := [.inr (.inl v5)]) rfl ?_
        exact X_lret rfl rfl ⟨rfl, rfl⟩
      · refine X_run 2 (i1 := 53) (L1 := [some (.inr (.inl v0)), none, some (.inr (.inl v2)), none, some (.inl v4), some (.inr (.inl v5)), none, some (.inr (.inl w0)), none, none, none, none, none, none, none]) (st1 := [.inr (.inl (9221120237041090560 : Int64))]) rfl ?_
        exact X_lret rfl rfl ⟨rfl, rfl⟩
def t_Re_sum_27 (v0 : Int64) (v2 : Int64) (v4 : Int32) (w0 : Int64) : Int64 := (cond (cn1 .lt (lg_cmp (f_Re_size v0) (f_Re_size v2))) (t_Re_sum_37 v0 v2 v4 w0 v0) (t_Re_sum_37 v0 v2 v4 w0 v2))
theorem ct_Re_sum_27 {d : Nat} {P : AP} (v0 : Int64) (v2 : Int64) (v4 : Int32) (w0 : Int64) : X m_Re_sum (d + 2) 27 [some (.inr (.inl v0)), none, some (.inr (.inl v2)), none, some (.inl v4), none, none, none, none, none, none, none, none, none, none] [.inr (.inl w0)] P (qL P (t_Re_sum_27 v0 v2 v4 w0)) := by
  unfold t_Re_sum_27
  refine X_run 2 (i1 := 29) (L1 := [some (.inr (.inl v0)), none, some (.inr (.inl v2)), none, some (.inl v4), some (.inr (.inl w0)), none, none, none, none, none, none, none, none, none]) (st1 := [.inr (.inl v0)]) rfl ?_
  refine X_calls m_Re_size (As := [.inr (.inl v0)]) (st := []) ok_Re_size rfl rfl rfl (Nat.le_of_ble_eq_true rfl) (Nat.le_of_ble_eq_true rfl) (c_Re_size (d := d + 1) v0) ?_
  rintro _ _ ⟨rfl, rfl⟩
  show X _ _ 30 [some (.inr (.inl v0)), none, some (.inr (.inl v2)), none, some (.inl v4), some (.inr (.inl w0)), none, none, none, none, none, none, none, none, none] [.inr (.inl (f_Re_size v0))] _ _
  refine X_run 1 (i1 := 31) (L1 := [some (.inr (.inl v0)), none, some (.inr (.inl v2)), none, some (.inl v4), some (.inr (.inl w0)), none, none, none, none, none, none, none, none, none]) (st1 := [.inr (.inl v2), .inr (.inl (f_Re_size v0))]) rfl ?_
  refine X_calls m_Re_size (As := [.inr (.inl v2)]) (st := [.inr (.inl (f_Re_size v0))]) ok_Re_size rfl rfl rfl (Nat.le_of_ble_eq_true rfl) (Nat.le_of_ble_eq_true rfl) (c_Re_size (d := d + 1) v2) ?_
  rintro _ _ ⟨rfl, rfl⟩
  show X _ _ 32 [some (.inr (.inl v0)), none, some (.inr (.inl v2)), none, some (.inl v4), some (.inr (.inl w0)), none, none, none, none, none, none, none, none, none] [.inr (.inl (f_Re_size v2)), .inr (.inl (f_Re_size v0))] _ _
  refine X_run 2 (i1 := cond (cn1 .lt (lg_cmp (f_Re_size v0) (f_Re_size v2))) 36 34) (L1 := [some (.inr (.inl v0)), none, some (.inr (.inl v2)), none, some (.inl v4), some (.inr (.inl w0)), none, none, none, none, none, none, none, none, none]) (st1 := []) rfl ?_
  refine X_brq (fun hb33 => ?_) (fun hb33 => ?_)
  · refine X_run 1 (i1 := 37) (L1 := [some (.inr (.inl v0)), none, some (.inr (.inl v2)), none, some (.inl v4), some (.inr (.inl w0)), none, none, none, none, none, none, none, none, none]) (st1 := [.inr (.inl v0)]) rfl ?_
    exact ct_Re_sum_37 v0 v2 v4 w0 v0
  · refine X_run 2 (i1 := 37) (L1 := [some (.inr (.inl v0)), none, some (.inr (.inl v2)), none, some (.inl v4), some (.inr (.inl w0)), none, none, none, none, none, none, none, none, none]) (st1 := [.inr (.inl v2)]) rfl ?_
    exact ct_Re_sum_37 v0 v2 v4 w0 v2
def t_Re_sum_17 (v0 : Int64) (v2 : Int64) (w0 : Int32) : Int64 := (cond (cn1 .lt (lg_cmp (f_Re_size v0) (f_Re_size v2))) (t_Re_sum_27 v0 v2 w0 v2) (t_Re_sum_27 v0 v2 w0 v0))
theorem ct_Re_sum_17 {d : Nat} {P : AP} (v0 : Int64) (v2 : Int64) (w0 : Int32) : X m_Re_sum (d + 2) 17 [some (.inr (.inl v0)), none, some (.inr (.inl v2)), none, none, none, none, none, none, none, none, none, none, none, none] [.inl w0] P (qL P (t_Re_sum_17 v0 v2 w0)) := by
  unfold t_Re_sum_17
  refine X_run 2 (i1 := 19) (L1 := [some (.inr (.inl v0)), none, some (.inr (.inl v2)), none, some (.inl w0), none, none, none, none, none, none, none, none, none, none]) (st1 := [.inr (.inl v0)]) rfl ?_
  refine X_calls m_Re_size (As := [.inr (.inl v0)]) (st := []) ok_Re_size rfl rfl rfl (Nat.le_of_ble_eq_true rfl) (Nat.le_of_ble_eq_true rfl) (c_Re_size (d := d + 1) v0) ?_
  rintro _ _ ⟨rfl, rfl⟩
  show X _ _ 20 [some (.inr (.inl v0)), none, some (.inr (.inl v2)), none, some (.inl w0), none, none, none, none, none, none, none, none, none, none] [.inr (.inl (f_Re_size v0))] _ _
  refine X_run 1 (i1 := 21) (L1 := [some (.inr (.inl v0)), none, some (.inr (.inl v2)), none, some (.inl w0), none, none, none, none, none, none, none, none, none, none]) (st1 := [.inr (.inl v2), .inr (.inl (f_Re_size v0))]) rfl ?_
  refine X_calls m_Re_size (As := [.inr (.inl v2)]) (st := [.inr (.inl (f_Re_size v0))]) ok_Re_size rfl rfl rfl (Nat.le_of_ble_eq_true rfl) (Nat.le_of_ble_eq_true rfl) (c_Re_size (d := d + 1) v2) ?_
  rintro _ _ ⟨rfl, rfl⟩
  show X _ _ 22 [some (.inr (.inl v0)), none, some (.inr (.inl v2)), none, some (.inl w0), none, none, none, none, none, none, none, none, none, none] [.inr (.inl (f_Re_size v2)), .inr (.inl (f_Re_size v0))] _ _
  refine X_run 2 (i1 := cond (cn1 .lt (lg_cmp (f_Re_size v0) (f_Re_size v2))) 26 24) (L1 := [some (.inr (.inl v0)), none, some (.inr (.inl v2)), none, some (.inl w0), none, none, none, none, none, none, none, none, none, none]) (st1 := []) rfl ?_
  refine X_brq (fun hb23 => ?_) (fun hb23 => ?_)
  · refine X_run 1 (i1 := 27) (L1 := [some (.inr (.inl v0)), none, some (.inr (.inl v2)), none, some (.inl w0), none, none, none, none, none, none, none, none, none, none]) (st1 := [.inr (.inl v2)]) rfl ?_
    exact ct_Re_sum_27 v0 v2 w0 v2
  · refine X_run 2 (i1 := 27) (L1 := [some (.inr (.inl v0)), none, some (.inr (.inl v2)), none, some (.inl w0), none, none, none, none, none, none, none, none, none, none]) (st1 := [.inr (.inl v0)]) rfl ?_
    exact ct_Re_sum_27 v0 v2 w0 v0
def f_Re_sum (a0 : Int64) (a1 : Int64) : Int64 := (cond (cn1 .ne (b2i (f_Re_isNan a0))) (9221120237041090560 : Int64) (cond (cn1 .eq (b2i (f_Re_isNan a1))) (cond (cn1 .lt (lg_cmp (a0 ^^^ a1) (0 : Int64))) (t_Re_sum_17 a0 a1 (0 : Int32)) (t_Re_sum_17 a0 a1 (1 : Int32))) (9221120237041090560 : Int64)))
theorem c_Re_sum {d : Nat} {P : AP} (a0 : Int64) (a1 : Int64) : X m_Re_sum (d + 2) 0 (entL 15 [.inr (.inl a0), .inr (.inl a1)]) [] P (qL P (f_Re_sum a0 a1)) := by
  unfold f_Re_sum
  refine X_run 1 (i1 := 1) (L1 := [some (.inr (.inl a0)), none, some (.inr (.inl a1)), none, none, none, none, none, none, none, none, none, none, none, none]) (st1 := [.inr (.inl a0)]) rfl ?_
  refine X_calls m_Re_isNan (As := [.inr (.inl a0)]) (st := []) ok_Re_isNan rfl rfl rfl (Nat.le_of_ble_eq_true rfl) (Nat.le_of_ble_eq_true rfl) (c_Re_isNan (d := d + 1) a0) ?_
  rintro _ _ ⟨rfl, rfl⟩
  show X _ _ 2 [some (.inr (.inl a0)), none, some (.inr (.inl a1)), none, none, none, none, none, none, none, none, none, none, none, none] [.inl (b2i (f_Re_isNan a0))] _ _
  refine X_run 1 (i1 := cond (cn1 .ne (b2i (f_Re_isNan a0))) 6 3) (L1 := [some (.inr (.inl a0)), none, some (.inr (.inl a1)), none, none, none, none, none, none, none, none, none, none, none, none]) (st1 := []) rfl ?_
  refine X_brq (fun hb2 => ?_) (fun hb2 => ?_)
  · refine X_run 1 (i1 := 7) (L1 := [some (.inr (.inl a0)), none, some (.inr (.inl a1)), none, none, none, none, none, none, none, none, none, none, none, none]) (st1 := [.inr (.inl (9221120237041090560 : Int64))]) rfl ?_
    exact X_lret rfl rfl ⟨rfl, rfl⟩
  · refine X_run 1 (i1 := 4) (L1 := [some (.inr (.inl a0)), none, some (.inr (.inl a1)), none, none, none, none, none, none, none, none, none, none, none, none]) (st1 := [.inr (.inl a1)]) rfl ?_
    refine X_calls m_Re_isNan (As := [.inr (.inl a1)]) (st := []) ok_Re_isNan rfl rfl rfl (Nat.le_of_ble_eq_true rfl) (Nat.le_of_ble_eq_true rfl) (c_Re_isNan (d := d + 1) a1) ?_
    rintro _ _ ⟨rfl, rfl⟩
    show X _ _ 5 [some (.inr (.inl a0)), none, some (.inr (.inl a1)), none, none, none, none, none, none, none, none, none, none, none, none] [.inl (b2i (f_Re_isNan a1))] _ _
    refine X_run 1 (i1 := cond (cn1 .eq (b2i (f_Re_isNan a1))) 8 6) (L1 := [some (.inr (.inl a0)), none, some (.inr (.inl a1)), none, none, none, none, none, none, none, none, none, none, none, none]) (st1 := []) rfl ?_
    refine X_brq (fun hb5 => ?_) (fun hb5 => ?_)
    · refine X_run 6 (i1 := cond (cn1 .lt (lg_cmp (a0 ^^^ a1) (0 : Int64))) 16 14) (L1 := [some (.inr (.inl a0)), none, some (.inr (.inl a1)), none, none, none, none, none, none, none, none, none, none, none, none]) (st1 := []) rfl ?_
      refine X_brq (fun hb13 => ?_) (fun hb13 => ?_)
      · refine X_run 1 (i1 := 17) (L1 := [some (.inr (.inl a0)), none, some (.inr (.inl a1)), none, none, none, none, none, none, none, none, none, none, none, none]) (st1 := [.inl (0 : Int32)]) rfl ?_
        exact ct_Re_sum_17 a0 a1 (0 : Int32)
      · refine X_run 2 (i1 := 17) (L1 := [some (.inr (.inl a0)), none, some (.inr (.inl a1)), none, none, none, none, none, none, none, none, none, none, none, none]) (st1 := [.inl (1 : Int32)]) rfl ?_
        exact ct_Re_sum_17 a0 a1 (1 : Int32)
    · refine X_run 1 (i1 := 7) (L1 := [some (.inr (.inl a0)), none, some (.inr (.inl a1)), none, none, none, none, none, none, none, none, none, none, none, none]) (st1 := [.inr (.inl (9221120237041090560 : Int64))]) rfl ?_
      exact X_lret rfl rfl ⟨rfl, rfl⟩
def t_Re_product_134 (v0 : Int64) (v2 : Int64) (v4 : Int64) (v7 : Int32) (v8 : Int32) (w0 : Int32) (w1 : Int64) : Int64 := (v4 ||| (f_Re_rounded (w1 ||| (Int32.toInt64 w0)) (((((f_Re_exponent v0) - v7) + (f_Re_exponent v2)) - v8) + (44 : Int32)) (52 : Int32) (1023 : Int32)))
theorem ct_Re_product_134 {d : Nat} {P : AP} (v0 : Int64) (v2 : Int64) (v4 : Int64) (v7 : Int32) (v8 : Int32) (w0 : Int32) (w1 : Int64) : X m_Re_product (d + 2) 134 [some (.inr (.inl v0)), none, some (.inr (.inl v2)), none, some (.inr (.inl v4)), none, none, some (.inl v7), some (.inl v8), none, none, none, none, none, none, none, none, none, none, none, none, none, none, none] [.inl w0, .inr (.inl w1)] P (qL P (t_Re_product_134 v0 v2 v4 v7 v8 w0 w1)) := by
  unfold t_Re_product_134
  refine X_run 4 (i1 := 138) (L1 := [some (.inr (.inl v0)), none, some (.inr (.inl v2)), none, some (.inr (.inl v4)), none, none, some (.inl v7), some (.inl v8), none, none, none, none, none, none, none, none, none, none, none, none, some (.inr (.inl (w1 ||| (Int32.toInt64 w0)))), none, none]) (st1 := [.inr (.inl v0)]) rfl ?_
  refine X_calls m_Re_exponent (As := [.inr (.inl v0)]) (st := []) ok_Re_exponent rfl rfl rfl (Nat.le_of_ble_eq_true rfl) (Nat.le_of_ble_eq_true rfl) (c_Re_exponent (d := d) v0) ?_
  rintro _ _ ⟨rfl, rfl⟩
  show X _ _ 139 [some (.inr (.inl v0)), none, some (.inr (.inl v2)), none, some (.inr (.inl v4)), none, none, some (.inl v7), some (.inl v8), none, none, none, none, none, none, none, none, none, none, none, none, some (.inr (.inl (w1 ||| (Int32.toInt64 w0)))), none, none] [.inl (f_Re_exponent v0)] _ _
  refine X_run 3 (i1 := 142) (L1 := [some (.inr (.inl v0)), none, some (.inr (.inl v2)), none, some (.inr (.inl v4)), none, none, some (.inl v7), some (.inl v8), none, none, none, none, none, none, none, none, none, none, none, none, some (.inr (.inl (w1 ||| (Int32.toInt64 w0)))), none, none]) (st1 := [.inr (.inl v2), .inl ((f_Re_exponent v0) - v7)]) rfl ?_
  refine X_calls m_Re_exponent (As := [.inr (.inl v2)]) (st := [.inl ((f_Re_exponent v0) - v7)]) ok_Re_exponent rfl rfl rfl (Nat.le_of_ble_eq_true rfl) (Nat.le_of_ble_eq_true rfl) (c_Re_exponent (d := d) v2) ?_
  rintro _ _ ⟨rfl, rfl⟩
  show X _ _ 143 [some (.inr (.inl v0)), none, some (.inr (.inl v2)), none, some (.inr (.inl v4)), none, none, some (.inl v7), some (.inl v8), none, none, none, none, none, none, none, none, none, none, none, none, some (.inr (.inl (w1 ||| (Int32.toInt64 w0)))), none, none] [.inl (f_Re_exponent v2), .inl ((f_Re_exponent v0) - v7)] _ _
  refine X_run 11 (i1 := 154) (L1 := [some (.inr (.inl v0)), none, some (.inr (.inl v2)), none, some (.inr (.inl v4)), none, none, some (.inl v7), some (.inl v8), none, none, none, none, none, none, none, none, none, none, none, none, some (.inr (.inl (w1 ||| (Int32.toInt64 w0)))), none, some (.inl (((((f_Re_exponent v0) - v7) + (f_Re_exponent v2)) - v8) + (44 : Int32)))]) (st1 := [.inl (1023 : Int32), .inl (52 : Int32), .inl (((((f_Re_exponent v0) - v7) + (f_Re_exponent v2)) - v8) + (44 : Int32)), .inr (.inl (w1 ||| (Int32.toInt64 w0))), .inr (.inl v4)]) rfl ?_
  refine X_calls m_Re_rounded (As := [.inr (.inl (w1 ||| (Int32.toInt64 w0))), .inl (((((f_Re_exponent v0) - v7) + (f_Re_exponent v2)) - v8) + (44 : Int32)), .inl (52 : Int32), .inl (1023 : Int32)]) (st := [.inr (.inl v4)]) ok_Re_rounded rfl rfl rfl (Nat.le_of_ble_eq_true rfl) (Nat.le_of_ble_eq_true rfl) (c_Re_rounded (d := d + 1) (w1 ||| (Int32.toInt64 w0)) (((((f_Re_exponent v0) - v7) + (f_Re_exponent v2)) - v8) + (44 : Int32)) (52 : Int32) (1023 : Int32)) ?_
  rintro _ _ ⟨rfl, rfl⟩
  show X _ _ 155 [some (.inr (.inl v0)), none, some (.inr (.inl v2)), none, some (.inr (.inl v4)), none, none, some (.inl v7), some (.inl v8), none, none, none, none, none, none, none, none, none, none, none, none, some (.inr (.inl (w1 ||| (Int32.toInt64 w0)))), none, some (.inl (((((f_Re_exponent v0) - v7) + (f_Re_exponent v2)) - v8) + (44 : Int32)))] [.inr (.inl (f_Re_rounded (w1 ||| (Int32.toInt64 w0)) (((((f_Re_exponent v0) - v7) + (f_Re_exponent v2)) - v8) + (44 : Int32)) (52 : Int32) (1023 : Int32))), .inr (.inl v4)] _ _
  refine X_run 1 (i1 := 156) (L1 := [some (.inr (.inl v0)), none, some (.inr (.inl v2)), none, some (.inr (.inl v4)), none, none, some (.inl v7), some (.inl v8), none, none, none, none, none, none, none, none, none, none, none, none, some (.inr (.inl (w1 ||| (Int32.toInt64 w0)))), none, some (.inl (((((f_Re_exponent v0) - v7) + (f_Re_exponent v2)) - v8) + (44 : Int32)))]) (st1 := [.inr (.inl (v4 ||| (f_Re_rounded (w1 ||| (Int32.toInt64 w0)) (((((f_Re_exponent v0) - v7) + (f_Re_exponent v2)) - v8) + (44 : Int32)) (52 : Int32) (1023 : Int32))))]) rfl ?_
  exact X_lret rfl rfl ⟨rfl, rfl⟩
def t_Re_product_108 (v0 : Int64) (v2 : Int64) (v4 : Int64) (v7 : Int32) (v8 : Int32) (v13 : Int64) (v15 : Int64) (v17 : Int64) : Int64 := (cond (cn1 .ne (lg_cmp ((((v15 &&& (134217727 : Int64)) <<< (Int32.toInt64 (27 : Int32) &&& 63)) ||| (v13 &&& (134217727 : Int64))) &&& (17592186044415 : Int64)) (0 : Int64))) (t_Re_product_134 v0 v2 v4 v7 v8 (1 : Int32) ((v17 <<< (Int32.toInt64 (10 : Int32) &&& 63)) ||| ((Int64.toUInt64 (((v15 &&& (134217727 : Int64)) <<< (Int32.toInt64 (27 : Int32) &&& 63)) ||| (v13 &&& (134217727 : Int64))) >>> (Int64.toUInt64 (Int32.toInt64 (44 : Int32)) &&& Int64.toUInt64 63)).toInt64))) (t_Re_product_134 v0 v2 v4 v7 v8 (0 : Int32) ((v17 <<< (Int32.toInt64 (10 : Int32) &&& 63)) ||| ((Int64.toUInt64 (((v15 &&& (134217727 : Int64)) <<< (Int32.toInt64 (27 : Int32) &&& 63)) ||| (v13 &&& (134217727 : Int64))) >>> (Int64.toUInt64 (Int32.toInt64 (44 : Int32)) &&& Int64.toUInt64 63)).toInt64))))
theorem ct_Re_product_108 {d : Nat} {P : AP} (v0 : Int64) (v2 : Int64) (v4 : Int64) (v7 : Int32) (v8 : Int32) (v13 : Int64) (v15 : Int64) (v17 : Int64) : X m_Re_product (d + 2) 108 [some (.inr (.inl v0)), none, some (.inr (.inl v2)), none, some (.inr (.inl v4)), none, none, some (.inl v7), some (.inl v8), none, none, none, none, some (.inr (.inl v13)), none, some (.inr (.inl v15)), none, some (.inr (.inl v17)), none, none, none, none, none, none] [] P (qL P (t_Re_product_108 v0 v2 v4 v7 v8 v13 v15 v17)) := by
  unfold t_Re_product_108
  refine X_run 23 (i1 := cond (cn1 .ne (lg_cmp ((((v15 &&& (134217727 : Int64)) <<< (Int32.toInt64 (27 : Int32) &&& 63)) ||| (v13 &&& (134217727 : Int64))) &&& (17592186044415 : Int64)) (0 : Int64))) 133 131) (L1 := [some (.inr (.inl v0)), none, some (.inr (.inl v2)), none, some (.inr (.inl v4)), none, none, some (.inl v7), some (.inl v8), none, none, none, none, some (.inr (.inl v13)), none, some (.inr (.inl v15)), none, some (.inr (.inl v17)), none, some (.inr (.inl (((v15 &&& (134217727 : Int64)) <<< (Int32.toInt64 (27 : Int32) &&& 63)) ||| (v13 &&& (134217727 : Int64))))), none, none, none, none]) (st1 := [.inr (.inl ((v17 <<< (Int32.toInt64 (10 : Int32) &&& 63)) ||| ((Int64.toUInt64 (((v15 &&& (134217727 : Int64)) <<< (Int32.toInt64 (27 : Int32) &&& 63)) ||| (v13 &&& (134217727 : Int64))) >>> (Int64.toUInt64 (Int32.toInt64 (44 : Int32)) &&& Int64.toUInt64 63)).toInt64)))]) rfl ?_
  refine X_brq (fun hb130 => ?_) (fun hb130 => ?_)
  · refine X_run 1 (i1 := 134) (L1 := [some (.inr (.inl v0)), none, some (.inr (.inl v2)), none, some (.inr (.inl v4)), none, none, some (.inl v7), some (.inl v8), none, none, none, none, some (.inr (.inl v13)), none, some (.inr (.inl v15)), none, some (.inr (.inl v17)), none, some (.inr (.inl (((v15 &&& (134217727 : Int64)) <<< (Int32.toInt64 (27 : Int32) &&& 63)) ||| (v13 &&& (134217727 : Int64))))), none, none, none, none]) (st1 := [.inl (1 : Int32), .inr (.inl ((v17 <<< (Int32.toInt64 (10 : Int32) &&& 63)) ||| ((Int64.toUInt64 (((v15 &&& (134217727 : Int64)) <<< (Int32.toInt64 (27 : Int32) &&& 63)) ||| (v13 &&& (134217727 : Int64))) >>> (Int64.toUInt64 (Int32.toInt64 (44 : Int32)) &&& Int64.toUInt64 63)).toInt64)))]) rfl ?_
    refine X_mask [true, true, true, true, true, true, true, true, true, true, true, true, true, false, true, false, true, false, true, false, true, true, true, true] ?_
    exact ct_Re_product_134 v0 v2 v4 v7 v8 (1 : Int32) ((v17 <<< (Int32.toInt64 (10 : Int32) &&& 63)) ||| ((Int64.toUInt64 (((v15 &&& (134217727 : Int64)) <<< (Int32.toInt64 (27 : Int32) &&& 63)) ||| (v13 &&& (134217727 : Int64))) >>> (Int64.toUInt64 (Int32.toInt64 (44 : Int32)) &&& Int64.toUInt64 63)).toInt64))
  · refine X_run 2 (i1 := 134) (L1 := [some (.inr (.inl v0)), none, some (.inr (.inl v2)), none, some (.inr (.inl v4)), none, none, some (.inl v7), some (.inl v8), none, none, none, none, some (.inr (.inl v13)), none, some (.inr (.inl v15)), none, some (.inr (.inl v17)), none, some (.inr (.inl (((v15 &&& (134217727 : Int64)) <<< (Int32.toInt64 (27 : Int32) &&& 63)) ||| (v13 &&& (134217727 : Int64))))), none, none, none, none]) (st1 := [.inl (0 : Int32), .inr (.inl ((v17 <<< (Int32.toInt64 (10 : Int32) &&& 63)) ||| ((Int64.toUInt64 (((v15 &&& (134217727 : Int64)) <<< (Int32.toInt64 (27 : Int32) &&& 63)) ||| (v13 &&& (134217727 : Int64))) >>> (Int64.toUInt64 (Int32.toInt64 (44 : Int32)) &&& Int64.toUInt64 63)).toInt64)))]) rfl ?_
    refine X_mask [true, true, true, true, true, true, true, true, true, true, true, true, true, false, true, false, true, false, true, false, true, true, true, true] ?_
    exact ct_Re_product_134 v0 v2 v4 v7 v8 (0 : Int32) ((v17 <<< (Int32.toInt64 (10 : Int32) &&& 63)) ||| ((Int64.toUInt64 (((v15 &&& (134217727 : Int64)) <<< (Int32.toInt64 (27 : Int32) &&& 63)) ||| (v13 &&& (134217727 : Int64))) >>> (Int64.toUInt64 (Int32.toInt64 (44 : Int32)) &&& Int64.toUInt64 63)).toInt64))
def t_Re_product_96 (v0 : Int64) (v2 : Int64) (v4 : Int64) (v7 : Int32) (v8 : Int32) (v9 : Int64) (v11 : Int64) (v13 : Int64) (v15 : Int64) : Int64 := (t_Re_product_108 v0 v2 v4 v7 v8 v13 v15 ((((Int64.toUInt64 v9 >>> (Int64.toUInt64 (Int32.toInt64 (27 : Int32)) &&& Int64.toUInt64 63)).toInt64) * ((Int64.toUInt64 v11 >>> (Int64.toUInt64 (Int32.toInt64 (27 : Int32)) &&& Int64.toUInt64 63)).toInt64)) + ((Int64.toUInt64 v15 >>> (Int64.toUInt64 (Int32.toInt64 (27 : Int32)) &&& Int64.toUInt64 63)).toInt64)))
theorem ct_Re_product_96 {d : Nat} {P : AP} (v0 : Int64) (v2 : Int64) (v4 : Int64) (v7 : Int32) (v8 : Int32) (v9 : Int64) (v11 : Int64) (v13 : Int64) (v15 : Int64) : X m_Re_product (d + 2) 96 [some (.inr (.inl v0)), none, some (.inr (.inl v2)), none, some (.inr (.inl v4)), none, none, some (.inl v7), some (.inl v8), some (.inr (.inl v9)), none, some (.inr (.inl v11)), none, some (.inr (.inl v13)), none, some (.inr (.inl v15)), none, none, none, none, none, none, none, none] [] P (qL P (t_Re_product_96 v0 v2 v4 v7 v8 v9 v11 v13 v15)) := by
  unfold t_Re_product_96
  refine X_run 12 (i1 := 108) (L1 := [some (.inr (.inl v0)), none, some (.inr (.inl v2)), none, some (.inr (.inl v4)), none, none, some (.inl v7), some (.inl v8), some (.inr (.inl v9)), none, some (.inr (.inl v11)), none, some (.inr (.inl v13)), none, some (.inr (.inl v15)), none, some (.inr (.inl ((((Int64.toUInt64 v9 >>> (Int64.toUInt64 (Int32.toInt64 (27 : Int32)) &&& Int64.toUInt64 63)).toInt64) * ((Int64.toUInt64 v11 >>> (Int64.toUInt64 (Int32.toInt64 (27 : Int32)) &&& Int64.toUInt64 63)).toInt64)) + ((Int64.toUInt64 v15 >>> (Int64.toUInt64 (Int32.toInt64 (27 : Int32)) &&& Int64.toUInt64 63)).toInt64)))), none, none, none, none, none, none]) (st1 := []) rfl ?_
  refine X_mask [true, true, true, true, true, true, true, true, true, false, true, false, true, true, true, true, true, true, true, true, true, true, true, true] ?_
  exact ct_Re_product_108 v0 v2 v4 v7 v8 v13 v15 ((((Int64.toUInt64 v9 >>> (Int64.toUInt64 (Int32.toInt64 (27 : Int32)) &&& Int64.toUInt64 63)).toInt64) * ((Int64.toUInt64 v11 >>> (Int64.toUInt64 (Int32.toInt64 (27 : Int32)) &&& Int64.toUInt64 63)).toInt64)) + ((Int64.toUInt64 v15 >>> (Int64.toUInt64 (Int32.toInt64 (27 : Int32)) &&& Int64.toUInt64 63)).toInt64))
def t_Re_product_76 (v0 : Int64) (v2 : Int64) (v4 : Int64) (v7 : Int32) (v8 : Int32) (v9 : Int64) (v11 : Int64) (v13 : Int64) : Int64 := (t_Re_product_96 v0 v2 v4 v7 v8 v9 v11 v13 (((((Int64.toUInt64 v9 >>> (Int64.toUInt64 (Int32.toInt64 (27 : Int32)) &&& Int64.toUInt64 63)).toInt64) * (v11 &&& (134217727 : Int64))) + ((v9 &&& (134217727 : Int64)) * ((Int64.toUInt64 v11 >>> (Int64.toUInt64 (Int32.toInt64 (27 : Int32)) &&& Int64.toUInt64 63)).toInt64))) + ((Int64.toUInt64 v13 >>> (Int64.toUInt64 (Int32.toInt64 (27 : Int32)) &&& Int64.toUInt64 63)).toInt64)))
theorem ct_Re_product_76 {d : Nat} {P : AP} (v0 : Int64) (v2 : Int64) (v4 : Int64) (v7 : Int32) (v8 : Int32) (v9 : Int64) (v11 : Int64) (v13 : Int64) : X m_Re_product (d + 2) 76 [some (.inr (.inl v0)), none, some (.inr (.inl v2)), none, some (.inr (.inl v4)), none, none, some (.inl v7), some (.inl v8), some (.inr (.inl v9)), none, some (.inr (.inl v11)), none, some (.inr (.inl v13)), none, none, none, none, none, none, none, none, none, none] [] P (qL P (t_Re_product_76 v0 v2 v4 v7 v8 v9 v11 v13)) := by
  unfold t_Re_product_76
  refine X_run 20 (i1 := 96) (L1 := [some (.inr (.inl v0)), none, some (.inr (.inl v2)), none, some (.inr (.inl v4)), none, none, some (.inl v7), some (.inl v8), some (.inr (.inl v9)), none, some (.inr (.inl v11)), none, some (.inr (.inl v13)), none, some (.inr (.inl (((((Int64.toUInt64 v9 >>> (Int64.toUInt64 (Int32.toInt64 (27 : Int32)) &&& Int64.toUInt64 63)).toInt64) * (v11 &&& (134217727 : Int64))) + ((v9 &&& (134217727 : Int64)) * ((Int64.toUInt64 v11 >>> (Int64.toUInt64 (Int32.toInt64 (27 : Int32)) &&& Int64.toUInt64 63)).toInt64))) + ((Int64.toUInt64 v13 >>> (Int64.toUInt64 (Int32.toInt64 (27 : Int32)) &&& Int64.toUInt64 63)).toInt64)))), none, none, none, none, none, none, none, none]) (st1 := []) rfl ?_
  exact ct_Re_product_96 v0 v2 v4 v7 v8 v9 v11 v13 (((((Int64.toUInt64 v9 >>> (Int64.toUInt64 (Int32.toInt64 (27 : Int32)) &&& Int64.toUInt64 63)).toInt64) * (v11 &&& (134217727 : Int64))) + ((v9 &&& (134217727 : Int64)) * ((Int64.toUInt64 v11 >>> (Int64.toUInt64 (Int32.toInt64 (27 : Int32)) &&& Int64.toUInt64 63)).toInt64))) + ((Int64.toUInt64 v13 >>> (Int64.toUInt64 (Int32.toInt64 (27 : Int32)) &&& Int64.toUInt64 63)).toInt64))
def t_Re_product_38 (v4 : Int64) (v6 : Int32) : Int64 := (cond (cn1 .eq v6) (v4 ||| (9218868437227405312 : Int64)) (9221120237041090560 : Int64))
theorem ct_Re_product_38 {d : Nat} {P : AP} (v4 : Int64) (v6 : Int32) : X m_Re_product (d + 2) 38 [none, none, none, none, some (.inr (.inl v4)), none, some (.inl v6), none, none, none, none, none, none, none, none, none, none, none, none, none, none, none, none, none] [] P (qL P (t_Re_product_38 v4 v6)) := by
  unfold t_Re_product_38
  refine X_run 2 (i1 := cond (cn1 .eq v6) 42 40) (L1 := [none, none, none, none, some (.inr (.inl v4)), none, some (.inl v6), none, none, none, none, none, none, none, none, none, none, none, none, none, none, none, none, none]) (st1 := []) rfl ?_
  refine X_brq (fun hb39 => ?_) (fun hb39 => ?_)
  · refine X_run 3 (i1 := 45) (L1 := [none, none, none, none, some (.inr (.inl v4)), none, some (.inl v6), none, none, none, none, none, none, none, none, none, none, none, none, none, none, none, none, none]) (st1 := [.inr (.inl (v4 ||| (9218868437227405312 : Int64)))]) rfl ?_
    exact X_lret rfl rfl ⟨rfl, rfl⟩
  · refine X_run 2 (i1 := 45) (L1 := [none, none, none, none, some (.inr (.inl v4)), none, some (.inl v6), none, none, none, none, none, none, none, none, none, none, none, none, none, none, none, none, none]) (st1 := [.inr (.inl (9221120237041090560 : Int64))]) rfl ?_
    exact X_lret rfl rfl ⟨rfl, rfl⟩
def t_Re_product_27 (v0 : Int64) (v2 : Int64) (v4 : Int64) (w0 : Int32) : Int64 := (cond (cn1 .eq (lg_cmp (f_Re_size v0) (9218868437227405312 : Int64))) (t_Re_product_38 v4 w0) (cond (cn1 .ne (lg_cmp (f_Re_size v2) (9218868437227405312 : Int64))) (cond (cn1 .eq w0) (t_Re_product_76 v0 v2 v4 (f_Re_gap (f_Re_mantissa v0)) (f_Re_gap (f_Re_mantissa v2)) ((f_Re_mantissa v0) <<< (Int32.toInt64 (f_Re_gap (f_Re_mantissa v0)) &&& 63)) ((f_Re_mantissa v2) <<< (Int32.toInt64 (f_Re_gap (f_Re_mantissa v2)) &&& 63)) ((((f_Re_mantissa v0) <<< (Int32.toInt64 (f_Re_gap (f_Re_mantissa v0)) &&& 63)) &&& (134217727 : Int64)) * (((f_Re_mantissa v2) <<< (Int32.toInt64 (f_Re_gap (f_Re_mantissa v2)) &&& 63)) &&& (134217727 : Int64)))) v4) (t_Re_product_38 v4 w0)))
theorem ct_Re_product_27 {d : Nat} {P : AP} (v0 : Int64) (v2 : Int64) (v4 : Int64) (w0 : Int32) : X m_Re_product (d + 2) 27 [some (.inr (.inl v0)), none, some (.inr (.inl v2)), none, some (.inr (.inl v4)), none, none, none, none, none, none, none, none, none, none, none, none, none, none, none, none, none, none, none] [.inl w0] P (qL P (t_Re_product_27 v0 v2 v4 w0)) := by
  unfold t_Re_product_27
  refine X_run 2 (i1 := 29) (L1 := [some (.inr (.inl v0)), none, some (.inr (.inl v2)), none, some (.inr (.inl v4)), none, some (.inl w0), none, none, none, none, none, none, none, none, none, none, none, none, none, none, none, none, none]) (st1 := [.inr (.inl v0)]) rfl ?_
  refine X_calls m_Re_size (As := [.inr (.inl v0)]) (st := []) ok_Re_size rfl rfl rfl (Nat.le_of_ble_eq_true rfl) (Nat.le_of_ble_eq_true rfl) (c_Re_size (d := d + 1) v0) ?_
  rintro _ _ ⟨rfl, rfl⟩
  show X _ _ 30 [some (.inr (.inl v0)), none, some (.inr (.inl v2)), none, some (.inr (.inl v4)), none, some (.inl w0), none, none, none, none, none, none, none, none, none, none, none, none, none, none, none, none, none] [.inr (.inl (f_Re_size v0))] _ _
  refine X_run 3 (i1 := cond (cn1 .eq (lg_cmp (f_Re_size v0) (9218868437227405312 : Int64))) 38 33) (L1 := [some (.inr (.inl v0)), none, some (.inr (.inl v2)), none, some (.inr (.inl v4)), none, some (.inl w0), none, none, none, none, none, none, none, none, none, none, none, none, none, none, none, none, none]) (st1 := []) rfl ?_
  refine X_brq (fun hb32 => ?_) (fun hb32 => ?_)
  · refine X_mask [false, true, false, true, true, true, true, true, true, true, true, true, true, true, true, true, true, true, true, true, true, true, true, true] ?_
    exact ct_Re_product_38 v4 w0
  · refine X_run 1 (i1 := 34) (L1 := [some (.inr (.inl v0)), none, some (.inr (.inl v2)), none, some (.inr (.inl v4)), none, some (.inl w0), none, none, none, none, none, none, none, none, none, none, none, none, none, none, none, none, none]) (st1 := [.inr (.inl v2)]) rfl ?_
    refine X_calls m_Re_size (As := [.inr (.inl v2)]) (st := []) ok_Re_size rfl rfl rfl (Nat.le_of_ble_eq_true rfl) (Nat.le_of_ble_eq_true rfl) (c_Re_size (d := d + 1) v2) ?_
    rintro _ _ ⟨rfl, rfl⟩
    show X _ _ 35 [some (.inr (.inl v0)), none, some (.inr (.inl v2)), none, some (.inr (.inl v4)), none, some (.inl w0), none, none, none, none, none, none, none, none, none, none, none, none, none, none, none, none, none] [.inr (.inl (f_Re_size v2))] _ _
    refine X_run 3 (i1 := cond (cn1 .ne (lg_cmp (f_Re_size v2) (9218868437227405312 : Int64))) 46 38) (L1 := [some (.inr (.inl v0)), none, some (.inr (.inl v2)), none, some (.inr (.inl v4)), none, some (.inl w0), none, none, none, none, none, none, none, none, none, none, none, none, none, none, none, none, none]) (st1 := []) rfl ?_
    refine X_brq (fun hb37 => ?_) (fun hb37 => ?_)
    · refine X_run 2 (i1 := cond (cn1 .eq w0) 50 48) (L1 := [some (.inr (.inl v0)), none, some (.inr (.inl v2)), none, some (.inr (.inl v4)), none, some (.inl w0), none, none, none, none, none, none, none, none, none, none, none, none, none, none, none, none, none]) (st1 := []) rfl ?_
      refine X_brq (fun hb47 => ?_) (fun hb47 => ?_)
      · refine X_run 1 (i1 := 51) (L1 := [some (.inr (.inl v0)), none, some (.inr (.inl v2)), none, some (.inr (.inl v4)), none, some (.inl w0), none, none, none, none, none, none, none, none, none, none, none, none, none, none, none, none, none]) (st1 := [.inr (.inl v0)]) rfl ?_
        refine X_calls m_Re_mantissa (As := [.inr (.inl v0)]) (st := []) ok_Re_mantissa rfl rfl rfl (Nat.le_of_ble_eq_true rfl) (Nat.le_of_ble_eq_true rfl) (c_Re_mantissa (d := d + 1) v0) ?_
        rintro _ _ ⟨rfl, rfl⟩
        show X _ _ 52 [some (.inr (.inl v0)), none, some (.inr (.inl v2)), none, some (.inr (.inl v4)), none, some (.inl w0), none, none, none, none, none, none, none, none, none, none, none, none, none, none, none, none, none] [.inr (.inl (f_Re_mantissa v0))] _ _
        refine X_calls m_Re_gap (As := [.inr (.inl (f_Re_mantissa v0))]) (st := []) ok_Re_gap rfl rfl rfl (Nat.le_of_ble_eq_true rfl) (Nat.le_of_ble_eq_true rfl) (c_Re_gap (d := d + 1) (f_Re_mantissa v0)) ?_
        rintro _ _ ⟨rfl, rfl⟩
        show X _ _ 53 [some (.inr (.inl v0)), none, some (.inr (.inl v2)), none, some (.inr (.inl v4)), none, some (.inl w0), none, none, none, none, none, none, none, none, none, none, none, none, none, none, none, none, none] [.inl (f_Re_gap (f_Re_mantissa v0))] _ _
        refine X_run 2 (i1 := 55) (L1 := [some (.inr (.inl v0)), none, some (.inr (.inl v2)), none, some (.inr (.inl v4)), none, some (.inl w0), some (.inl (f_Re_gap (f_Re_mantissa v0))), none, none, none, none, none, none, none, none, none, none, none, none, none, none, none, none]) (st1 := [.inr (.inl v2)]) rfl ?_
        refine X_calls m_Re_mantissa (As := [.inr (.inl v2)]) (st := []) ok_Re_mantissa rfl rfl rfl (Nat.le_of_ble_eq_true rfl) (Nat.le_of_ble_eq_true rfl) (c_Re_mantissa (d := d + 1) v2) ?_
        rintro _ _ ⟨rfl, rfl⟩
        show X _ _ 56 [some (.inr (.inl v0)), none, some (.inr (.inl v2)), none, some (.inr (.inl v4)), none, some (.inl w0), some (.inl (f_Re_gap (f_Re_mantissa v0))), none, none, none, none, none, none, none, none, none, none, none, none, none, none, none, none] [.inr (.inl (f_Re_mantissa v2))] _ _
        refine X_calls m_Re_gap (As := [.inr (.inl (f_Re_mantissa v2))]) (st := []) ok_Re_gap rfl rfl rfl (Nat.le_of_ble_eq_true rfl) (Nat.le_of_ble_eq_true rfl) (c_Re_gap (d := d + 1) (f_Re_mantissa v2)) ?_
        rintro _ _ ⟨rfl, rfl⟩
        show X _ _ 57 [some (.inr (.inl v0)), none, some (.inr (.inl v2)), none, some (.inr (.inl v4)), none, some (.inl w0), some (.inl (f_Re_gap (f_Re_mantissa v0))), none, none, none, none, none, none, none, none, none, none, none, none, none, none, none, none] [.inl (f_Re_gap (f_Re_mantissa v2))] _ _
        refine X_run 2 (i1 := 59) (L1 := [some (.inr (.inl v0)), none, some (.inr (.inl v2)), none, some (.inr (.inl v4)), none, some (.inl w0), some (.inl (f_Re_gap (f_Re_mantissa v0))), some (.inl (f_Re_gap (f_Re_mantissa v2))), none, none, none, none, none, none, none, none, none, none, none, none, none, none, none]) (st1 := [.inr (.inl v0)]) rfl ?_
        refine X_calls m_Re_mantissa (As := [.inr (.inl v0)]) (st := []) ok_Re_mantissa rfl rfl rfl (Nat.le_of_ble_eq_true rfl) (Nat.le_of_ble_eq_true rfl) (c_Re_mantissa (d := d + 1) v0) ?_
        rintro _ _ ⟨rfl, rfl⟩
        show X _ _ 60 [some (.inr (.inl v0)), none, some (.inr (.inl v2)), none, some (.inr (.inl v4)), none, some (.inl w0), some (.inl (f_Re_gap (f_Re_mantissa v0))), some (.inl (f_Re_gap (f_Re_mantissa v2))), none, none, none, none, none, none, none, none, none, none, none, none, none, none, none] [.inr (.inl (f_Re_mantissa v0))] _ _
        refine X_run 4 (i1 := 64) (L1 := [some (.inr (.inl v0)), none, some (.inr (.inl v2)), none, some (.inr (.inl v4)), none, some (.inl w0), some (.inl (f_Re_gap (f_Re_mantissa v0))), some (.inl (f_Re_gap (f_Re_mantissa v2))), some (.inr (.inl ((f_Re_mantissa v0) <<< (Int32.toInt64 (f_Re_gap (f_Re_mantissa v0)) &&& 63)))), none, none, none, none, none, none, none, none, none, none, none, none, none, none]) (st1 := [.inr (.inl v2)]) rfl ?_
        refine X_calls m_Re_mantissa (As := [.inr (.inl v2)]) (st := []) ok_Re_mantissa rfl rfl rfl (Nat.le_of_ble_eq_true rfl) (Nat.le_of_ble_eq_true rfl) (c_Re_mantissa (d := d + 1) v2) ?_
        rintro _ _ ⟨rfl, rfl⟩
        show X _ _ 65 [some (.inr (.inl v0)), none, some (.inr (.inl v2)), none, some (.inr (.inl v4)), none, some (.inl w0), some (.inl (f_Re_gap (f_Re_mantissa v0))), some (.inl (f_Re_gap (f_Re_mantissa v2))), some (.inr (.inl ((f_Re_mantissa v0) <<< (Int32.toInt64 (f_Re_gap (f_Re_mantissa v0)) &&& 63)))), none, none, none, none, none, none, none, none, none, none, none, none, none, none] [.inr (.inl (f_Re_mantissa v2))] _ _
        refine X_run 11 (i1 := 76) (L1 := [some (.inr (.inl v0)), none, some (.inr (.inl v2)), none, some (.inr (.inl v4)), none, some (.inl w0), some (.inl (f_Re_gap (f_Re_mantissa v0))), some (.inl (f_Re_gap (f_Re_mantissa v2))), some (.inr (.inl ((f_Re_mantissa v0) <<< (Int32.toInt64 (f_Re_gap (f_Re_mantissa v0)) &&& 63)))), none, some (.inr (.inl ((f_Re_mantissa v2) <<< (Int32.toInt64 (f_Re_gap (f_Re_mantissa v2)) &&& 63)))), none, some (.inr (.inl ((((f_Re_mantissa v0) <<< (Int32.toInt64 (f_Re_gap (f_Re_mantissa v0)) &&& 63)) &&& (134217727 : Int64)) * (((f_Re_mantissa v2) <<< (Int32.toInt64 (f_Re_gap (f_Re_mantissa v2)) &&& 63)) &&& (134217727 : Int64))))), none, none, none, none, none, none, none, none, none, none]) (st1 := []) rfl ?_
        refine X_mask [true, true, true, true, true, true, false, true, true, true, true, true, true, true, true, true, true, true, true, true, true, true, true, true] ?_
        exact ct_Re_product_76 v0 v2 v4 (f_Re_gap (f_Re_mantissa v0)) (f_Re_gap (f_Re_mantissa v2)) ((f_Re_mantissa v0) <<< (Int32.toInt64 (f_Re_gap (f_Re_mantissa v0)) &&& 63)) ((f_Re_mantissa v2) <<< (Int32.toInt64 (f_Re_gap (f_Re_mantissa v2)) &&& 63)) ((((f_Re_mantissa v0) <<< (Int32.toInt64 (f_Re_gap (f_Re_mantissa v0)) &&& 63)) &&& (134217727 : Int64)) * (((f_Re_mantissa v2) <<< (Int32.toInt64 (f_Re_gap (f_Re_mantissa v2)) &&& 63)) &&& (134217727 : Int64)))
      · refine X_run 1 (i1 := 49) (L1 := [some (.inr (.inl v0)), none, some (.inr (.inl v2)), none, some (.inr (.inl v4)), none, some (.inl w0), none, none, none, none, none, none, none, none, none, none, none, none, none, none, none, none, none]) (st1 := [.inr (.inl v4)]) rfl ?_
        exact X_lret rfl rfl ⟨rfl, rfl⟩
    · refine X_mask [false, true, false, true, true, true, true, true, true, true, true, true, true, true, true, true, true, true, true, true, true, true, true, true] ?_
      exact ct_Re_product_38 v4 w0
def t_Re_product_24 (v0 : Int64) (v2 : Int64) (v4 : Int64) : Int64 := (t_Re_product_27 v0 v2 v4 (1 : Int32))
theorem ct_Re_product_24 {d : Nat} {P : AP} (v0 : Int64) (v2 : Int64) (v4 : Int64) : X m_Re_product (d + 2) 24 [some (.inr (.inl v0)), none, some (.inr (.inl v2)), none, some (.inr (.inl v4)), none, none, none, none, none, none, none, none, none, none, none, none, none, none, none, none, none, none, none] [] P (qL P (t_Re_product_24 v0 v2 v4)) := by
  unfold t_Re_product_24
  refine X_run 2 (i1 := 27) (L1 := [some (.inr (.inl v0)), none, some (.inr (.inl v2)), none, some (.inr (.inl v4)), none, none, none, none, none, none, none, none, none, none, none, none, none, none, none, none, none, none, none]) (st1 := [.inl (1 : Int32)]) rfl ?_
  exact ct_Re_product_27 v0 v2 v4 (1 : Int32)
def f_Re_product (a0 : Int64) (a1 : Int64) : Int64 := (cond (cn1 .ne (b2i (f_Re_isNan a0))) (9221120237041090560 : Int64) (cond (cn1 .eq (b2i (f_Re_isNan a1))) (cond (cn1 .eq (lg_cmp (f_Re_size a0) (0 : Int64))) (t_Re_product_24 a0 a1 ((a0 ^^^ a1) &&& (-9223372036854775808 : Int64))) (cond (cn1 .ne (lg_cmp (f_Re_size a1) (0 : Int64))) (t_Re_product_27 a0 a1 ((a0 ^^^ a1) &&& (-9223372036854775808 : Int64)) (0 : Int32)) (t_Re_product_24 a0 a1 ((a0 ^^^ a1) &&& (-9223372036854775808 : Int64))))) (9221120237041090560 : Int64)))
theorem c_Re_product {d : Nat} {P : AP} (a0 : Int64) (a1 : Int64) : X m_Re_product (d + 2) 0 (entL 24 [.inr (.inl a0), .inr (.inl a1)]) [] P (qL P (f_Re_product a0 a1)) := by
  unfold f_Re_product
  refine X_run 7 (i1 := 7) (L1 := [some (.inr (.inl a0)), none, some (.inr (.inl a1)), none, some (.inr (.inl ((a0 ^^^ a1) &&& (-9223372036854775808 : Int64)))), none, none, none, none, none, none, none, none, none, none, none, none, none, none, none, none, none, none, none]) (st1 := [.inr (.inl a0)]) rfl ?_
  refine X_calls m_Re_isNan (As := [.inr (.inl a0)]) (st := []) ok_Re_isNan rfl rfl rfl (Nat.le_of_ble_eq_true rfl) (Nat.le_of_ble_eq_true rfl) (c_Re_isNan (d := d + 1) a0) ?_
  rintro _ _ ⟨rfl, rfl⟩
  show X _ _ 8 [some (.inr (.inl a0)), none, some (.inr (.inl a1)), none, some (.inr (.inl ((a0 ^^^ a1) &&& (-9223372036854775808 : Int64)))), none, none, none, none, none, none, none, none, none, none, none, none, none, none, none, none, none, none, none] [.inl (b2i (f_Re_isNan a0))] _ _
  refine X_run 1 (i1 := cond (cn1 .ne (b2i (f_Re_isNan a0))) 12 9) (L1 := [some (.inr (.inl a0)), none, some (.inr (.inl a1)), none, some (.inr (.inl ((a0 ^^^ a1) &&& (-9223372036854775808 : Int64)))), none, none, none, none, none, none, none, none, none, none, none, none, none, none, none, none, none, none, none]) (st1 := []) rfl ?_
  refine X_brq (fun hb8 => ?_) (fun hb8 => ?_)
  · refine X_run 1 (i1 := 13) (L1 := [some (.inr (.inl a0)), none, some (.inr (.inl a1)), none, some (.inr (.inl ((a0 ^^^ a1) &&& (-9223372036854775808 : Int64)))), none, none, none, none, none, none, none, none, none, none, none, none, none, none, none, none, none, none, none]) (st1 := [.inr (.inl (9221120237041090560 : Int64))]) rfl ?_
    exact X_lret rfl rfl ⟨rfl, rfl⟩
  · refine X_run 1 (i1 := 10) (L1 := [some (.inr (.inl a0)), none, some (.inr (.inl a1)), none, some (.inr (.inl ((a0 ^^^ a1) &&& (-9223372036854775808 : Int64)))), none, none, none, none, none, none, none, none, none, none, none, none, none, none, none, none, none, none, none]) (st1 := [.inr (.inl a1)]) rfl ?_
    refine X_calls m_Re_isNan (As := [.inr (.inl a1)]) (st := []) ok_Re_isNan rfl rfl rfl (Nat.le_of_ble_eq_true rfl) (Nat.le_of_ble_eq_true rfl) (c_Re_isNan (d := d + 1) a1) ?_
    rintro _ _ ⟨rfl, rfl⟩
    show X _ _ 11 [some (.inr (.inl a0)), none, some (.inr (.inl a1)), none, some (.inr (.inl ((a0 ^^^ a1) &&& (-9223372036854775808 : Int64)))), none, none, none, none, none, none, none, none, none, none, none, none, none, none, none, none, none, none, none] [.inl (b2i (f_Re_isNan a1))] _ _
    refine X_run 1 (i1 := cond (cn1 .eq (b2i (f_Re_isNan a1))) 14 12) (L1 := [some (.inr (.inl a0)), none, some (.inr (.inl a1)), none, some (.inr (.inl ((a0 ^^^ a1) &&& (-9223372036854775808 : Int64)))), none, none, none, none, none, none, none, none, none, none, none, none, none, none, none, none, none, none, none]) (st1 := []) rfl ?_
    refine X_brq (fun hb11 => ?_) (fun hb11 => ?_)
    · refine X_run 1 (i1 := 15) (L1 := [some (.inr (.inl a0)), none, some (.inr (.inl a1)), none, some (.inr (.inl ((a0 ^^^ a1) &&& (-9223372036854775808 : Int64)))), none, none, none, none, none, none, none, none, none, none, none, none, none, none, none, none, none, none, none]) (st1 := [.inr (.inl a0)]) rfl ?_
      refine X_calls m_Re_size (As := [.inr (.inl a0)]) (st := []) ok_Re_size rfl rfl rfl (Nat.le_of_ble_eq_true rfl) (Nat.le_of_ble_eq_true rfl) (c_Re_size (d := d + 1) a0) ?_
      rintro _ _ ⟨rfl, rfl⟩
      show X _ _ 16 [some (.inr (.inl a0)), none, some (.inr (.inl a1)), none, some (.inr (.inl ((a0 ^^^ a1) &&& (-9223372036854775808 : Int64)))), none, none, none, none, none, none, none, none, none, none, none, none, none, none, none, none, none, none, none] [.inr (.inl (f_Re_size a0))] _ _
      refine X_run 3 (i1 := cond (cn1 .eq (lg_cmp (f_Re_size a0) (0 : Int64))) 24 19) (L1 := [some (.inr (.inl a0)), none, some (.inr (.inl a1)), none, some (.inr (.inl ((a0 ^^^ a1) &&& (-9223372036854775808 : Int64)))), none, none, none, none, none, none, none, none, none, none, none, none, none, none, none, none, none, none, none]) (st1 := []) rfl ?_
      refine X_brq (fun hb18 => ?_) (fun hb18 => ?_)
      · exact ct_Re_product_24 a0 a1 ((a0 ^^^ a1) &&& (-9223372036854775808 : Int64))
      · refine X_run 1 (i1 := 20) (L1 := [some (.inr (.inl a0)), none, some (.inr (.inl a1)), none, some (.inr (.inl ((a0 ^^^ a1) &&& (-9223372036854775808 : Int64)))), none, none, none, none, none, none, none, none, none, none, none, none, none, none, none, none, none, none, none]) (st1 := [.inr (.inl a1)]) rfl ?_
        refine X_calls m_Re_size (As := [.inr (.inl a1)]) (st := []) ok_Re_size rfl rfl rfl (Nat.le_of_ble_eq_true rfl) (Nat.le_of_ble_eq_true rfl) (c_Re_size (d := d + 1) a1) ?_
        rintro _ _ ⟨rfl, rfl⟩
        show X _ _ 21 [some (.inr (.inl a0)), none, some (.inr (.inl a1)), none, some (.inr (.inl ((a0 ^^^ a1) &&& (-9223372036854775808 : Int64)))), none, none, none, none, none, none, none, none, none, none, none, none, none, none, none, none, none, none, none] [.inr (.inl (f_Re_size a1))] _ _
        refine X_run 3 (i1 := cond (cn1 .ne (lg_cmp (f_Re_size a1) (0 : Int64))) 26 24) (L1 := [some (.inr (.inl a0)), none, some (.inr (.inl a1)), none, some (.inr (.inl ((a0 ^^^ a1) &&& (-9223372036854775808 : Int64)))), none, none, none, none, none, none, none, none, none, none, none, none, none, none, none, none, none, none, none]) (st1 := []) rfl ?_
        refine X_brq (fun hb23 => ?_) (fun hb23 => ?_)
        · refine X_run 1 (i1 := 27) (L1 := [some (.inr (.inl a0)), none, some (.inr (.inl a1)), none, some (.inr (.inl ((a0 ^^^ a1) &&& (-9223372036854775808 : Int64)))), none, none, none, none, none, none, none, none, none, none, none, none, none, none, none, none, none, none, none]) (st1 := [.inl (0 : Int32)]) rfl ?_
          exact ct_Re_product_27 a0 a1 ((a0 ^^^ a1) &&& (-9223372036854775808 : Int64)) (0 : Int32)
        · exact ct_Re_product_24 a0 a1 ((a0 ^^^ a1) &&& (-9223372036854775808 : Int64))
    · refine X_run 1 (i1 := 13) (L1 := [some (.inr (.inl a0)), none, some (.inr (.inl a1)), none, some (.inr (.inl ((a0 ^^^ a1) &&& (-9223372036854775808 : Int64)))), none, none, none, none, none, none, none, none, none, none, none, none, none, none, none, none, none, none, none]) (st1 := [.inr (.inl (9221120237041090560 : Int64))]) rfl ?_
      exact X_lret rfl rfl ⟨rfl, rfl⟩
def t_Re_quotient_129 (v14 : Int32) (w0 : Int64) (w1 : Int64) : Int64 := (w1 ||| (f_Re_rounded w0 v14 (52 : Int32) (1023 : Int32)))
theorem ct_Re_quotient_129 {d : Nat} {P : AP} (v14 : Int32) (w0 : Int64) (w1 : Int64) : X m_Re_quotient (d + 2) 129 [none, none, none, none, none, none, none, none, none, none, none, none, none, none, some (.inl v14)] [.inr (.inl w0), .inr (.inl w1)] P (qL P (t_Re_quotient_129 v14 w0 w1)) := by
  unfold t_Re_quotient_129
  refine X_run 3 (i1 := 132) (L1 := [none, none, none, none, none, none, none, none, none, none, none, none, none, none, some (.inl v14)]) (st1 := [.inl (1023 : Int32), .inl (52 : Int32), .inl v14, .inr (.inl w0), .inr (.inl w1)]) rfl ?_
  refine X_calls m_Re_rounded (As := [.inr (.inl w0), .inl v14, .inl (52 : Int32), .inl (1023 : Int32)]) (st := [.inr (.inl w1)]) ok_Re_rounded rfl rfl rfl (Nat.le_of_ble_eq_true rfl) (Nat.le_of_ble_eq_true rfl) (c_Re_rounded (d := d + 1) w0 v14 (52 : Int32) (1023 : Int32)) ?_
  rintro _ _ ⟨rfl, rfl⟩
  show X _ _ 133 [none, none, none, none, none, none, none, none, none, none, none, none, none, none, some (.inl v14)] [.inr (.inl (f_Re_rounded w0 v14 (52 : Int32) (1023 : Int32))), .inr (.inl w1)] _ _
  refine X_run 1 (i1 := 134) (L1 := [none, none, none, none, none, none, none, none, none, none, none, none, none, none, some (.inl v14)]) (st1 := [.inr (.inl (w1 ||| (f_Re_rounded w0 v14 (52 : Int32) (1023 : Int32))))]) rfl ?_
  exact X_lret rfl rfl ⟨rfl, rfl⟩
def t_Re_quotient_86 : Nat → Int64 → Int64 → Int64 → Int32 → Int32 → Int64 → Int64 → Int64 → Int32 → Int64
  | 0, _, _, _, _, _, _, _, _, _ => 0
  | n + 1, v0, v2, v4, v6, v7, v8, v10, v12, v14 => (cond (cn2 .ge v14 (6 : Int32)) (cond (cn1 .ne (lg_cmp v10 (0 : Int64))) (t_Re_quotient_129 (((((f_Re_exponent v0) - v6) - (f_Re_exponent v2)) + v7) - (60 : Int32)) (v12 ||| (1 : Int64)) v4) (t_Re_quotient_129 (((((f_Re_exponent v0) - v6) - (f_Re_exponent v2)) + v7) - (60 : Int32)) v12 v4)) (t_Re_quotient_86 n v0 v2 v4 v6 v7 v8 ((v10 <<< (Int32.toInt64 (10 : Int32) &&& 63)) - (v10 <<< (Int32.toInt64 (10 : Int32) &&& 63)) / v8 * v8) ((v12 <<< (Int32.toInt64 (10 : Int32) &&& 63)) ||| ((v10 <<< (Int32.toInt64 (10 : Int32) &&& 63)) / v8)) (v14 + Int32.ofInt (1))))
theorem ct_Re_quotient_86 {d : Nat} {P : AP} : ∀ (n : Nat) (v0 : Int64) (v2 : Int64) (v4 : Int64) (v6 : Int32) (v7 : Int32) (v8 : Int64) (v10 : Int64) (v12 : Int64) (v14 : Int32), ¬ v8 = 0 ∧ (0 ≤ v14.toInt ∧ v14.toInt ≤ 6 ∧ 6 - v14.toInt < n) → X m_Re_quotient (d + 2) 86 [some (.inr (.inl v0)), none, some (.inr (.inl v2)), none, some (.inr (.inl v4)), none, some (.inl v6), some (.inl v7), some (.inr (.inl v8)), none, some (.inr (.inl v10)), none, some (.inr (.inl v12)), none, some (.inl v14)] [] P (qL P (t_Re_quotient_86 n v0 v2 v4 v6 v7 v8 v10 v12 v14))
  | 0, v0, v2, v4, v6, v7, v8, v10, v12, v14, hI => by exfalso; omega
  | n + 1, v0, v2, v4, v6, v7, v8, v10, v12, v14, hI => by
    have ih := @ct_Re_quotient_86 d P n
    unfold t_Re_quotient_86
    refine X_run 3 (i1 := cond (cn2 .ge v14 (6 : Int32)) 107 89) (L1 := [some (.inr (.inl v0)), none, some (.inr (.inl v2)), none, some (.inr (.inl v4)), none, some (.inl v6), some (.inl v7), some (.inr (.inl v8)), none, some (.inr (.inl v10)), none, some (.inr (.inl v12)), none, some (.inl v14)]) (st1 := []) rfl ?_
    refine X_brq (fun hb88 => ?_) (fun hb88 => ?_)
    · refine X_run 1 (i1 := 108) (L1 := [some (.inr (.inl v0)), none, some (.inr (.inl v2)), none, some (.inr (.inl v4)), none, some (.inl v6), some (.inl v7), some (.inr (.inl v8)), none, some (.inr (.inl v10)), none, some (.inr (.inl v12)), none, some (.inl v14)]) (st1 := [.inr (.inl v0)]) rfl ?_
      refine X_calls m_Re_exponent (As := [.inr (.inl v0)]) (st := []) ok_Re_exponent rfl rfl rfl (Nat.le_of_ble_eq_true rfl) (Nat.le_of_ble_eq_true rfl) (c_Re_exponent (d := d) v0) ?_
      rintro _ _ ⟨rfl, rfl⟩
      show X _ _ 109 [some (.inr (.inl v0)), none, some (.inr (.inl v2)), none, some (.inr (.inl v4)), none, some (.inl v6), some (.inl v7), some (.inr (.inl v8)), none, some (.inr (.inl v10)), none, some (.inr (.inl v12)), none, some (.inl v14)] [.inl (f_Re_exponent v0)] _ _
      refine X_run 3 (i1 := 112) (L1 := [some (.inr (.inl v0)), none, some (.inr (.inl v2)), none, some (.inr (.inl v4)), none, some (.inl v6), some (.inl v7), some (.inr (.inl v8)), none, some (.inr (.inl v10)), none, some (.inr (.inl v12)), none, some (.inl v14)]) (st1 := [.inr (.inl v2), .inl ((f_Re_exponent v0) - v6)]) rfl ?_
      refine X_calls m_Re_exponent (As := [.inr (.inl v2)]) (st := [.inl ((f_Re_exponent v0) - v6)]) ok_Re_exponent rfl rfl rfl (Nat.le_of_ble_eq_true rfl) (Nat.le_of_ble_eq_true rfl) (c_Re_exponent (d := d) v2) ?_
      rintro _ _ ⟨rfl, rfl⟩
      show X _ _ 113 [some (.inr (.inl v0)), none, some (.inr (.inl v2)), none, some (.inr (.inl v4)), none, some (.inl v6), some (.inl v7), some (.inr (.inl v8)), none, some (.inr (.inl v10)), none, some (.inr (.inl v12)), none, some (.inl v14)] [.inl (f_Re_exponent v2), .inl ((f_Re_exponent v0) - v6)] _ _
      refine X_run 11 (i1 := cond (cn1 .ne (lg_cmp v10 (0 : Int64))) 126 124) (L1 := [some (.inr (.inl v0)), none, some (.inr (.inl v2)), none, some (.inr (.inl v4)), none, some (.inl v6), some (.inl v7), some (.inr (.inl v8)), none, some (.inr (.inl v10)), none, some (.inr (.inl v12)), none, some (.inl (((((f_Re_exponent v0) - v6) - (f_Re_exponent v2)) + v7) - (60 : Int32)))]) (st1 := [.inr (.inl v4)]) rfl ?_
      refine X_brq (fun hb123 => ?_) (fun hb123 => ?_)
      · refine X_run 3 (i1 := 129) (L1 := [some (.inr (.inl v0)), none, some (.inr (.inl v2)), none, some (.inr (.inl v4)), none, some (.inl v6), some (.inl v7), some (.inr (.inl v8)), none, some (.inr (.inl v10)), none, some (.inr (.inl v12)), none, some (.inl (((((f_Re_exponent v0) - v6) - (f_Re_exponent v2)) + v7) - (60 : Int32)))]) (st1 := [.inr (.inl (v12 ||| (1 : Int64))), .inr (.inl v4)]) rfl ?_
        refine X_mask [false, true, false, true, false, true, false, false, false, true, false, true, false, true, true] ?_
        exact ct_Re_quotient_129 (((((f_Re_exponent v0) - v6) - (f_Re_exponent v2)) + v7) - (60 : Int32)) (v12 ||| (1 : Int64)) v4
      · refine X_run 2 (i1 := 129) (L1 := [some (.inr (.inl v0)), none, some (.inr (.inl v2)), none, some (.inr (.inl v4)), none, some (.inl v6), some (.inl v7), some (.inr (.inl v8)), none, some (.inr (.inl v10)), none, some (.inr (.inl v12)), none, some (.inl (((((f_Re_exponent v0) - v6) - (f_Re_exponent v2)) + v7) - (60 : Int32)))]) (st1 := [.inr (.inl v12), .inr (.inl v4)]) rfl ?_
        refine X_mask [false, true, false, true, false, true, false, false, false, true, false, true, false, true, true] ?_
        exact ct_Re_quotient_129 (((((f_Re_exponent v0) - v6) - (f_Re_exponent v2)) + v7) - (60 : Int32)) v12 v4
    · refine X_run 9 (i1 := 98) (L1 := [some (.inr (.inl v0)), none, some (.inr (.inl v2)), none, some (.inr (.inl v4)), none, some (.inl v6), some (.inl v7), some (.inr (.inl v8)), none, some (.inr (.inl (v10 <<< (Int32.toInt64 (10 : Int32) &&& 63)))), none, some (.inr (.inl v12)), none, some (.inl v14)]) (st1 := [.inr (.inl v8), .inr (.inl (v10 <<< (Int32.toInt64 (10 : Int32) &&& 63))), .inr (.inl (v12 <<< (Int32.toInt64 (10 : Int32) &&& 63)))]) rfl ?_
      refine X_ldiv rfl (by first | exact hI | exact hI.1 | exact ne0_t (by assumption) | exact ne0_f (by assumption)) ?_
      refine X_run 4 (i1 := 103) (L1 := [some (.inr (.inl v0)), none, some (.inr (.inl v2)), none, some (.inr (.inl v4)), none, some (.inl v6), some (.inl v7), some (.inr (.inl v8)), none, some (.inr (.inl (v10 <<< (Int32.toInt64 (10 : Int32) &&& 63)))), none, some (.inr (.inl ((v12 <<< (Int32.toInt64 (10 : Int32) &&& 63)) ||| ((v10 <<< (Int32.toInt64 (10 : Int32) &&& 63)) / v8)))), none, some (.inl v14)]) (st1 := [.inr (.inl v8), .inr (.inl (v10 <<< (Int32.toInt64 (10 : Int32) &&& 63)))]) rfl ?_
      refine X_lrem rfl (by first | exact hI | exact hI.1 | exact ne0_t (by assumption) | exact ne0_f (by assumption)) ?_
      refine X_run 3 (i1 := 86) (L1 := [some (.inr (.inl v0)), none, some (.inr (.inl v2)), none, some (.inr (.inl v4)), none, some (.inl v6), some (.inl v7), some (.inr (.inl v8)), none, some (.inr (.inl ((v10 <<< (Int32.toInt64 (10 : Int32) &&& 63)) - (v10 <<< (Int32.toInt64 (10 : Int32) &&& 63)) / v8 * v8))), none, some (.inr (.inl ((v12 <<< (Int32.toInt64 (10 : Int32) &&& 63)) ||| ((v10 <<< (Int32.toInt64 (10 : Int32) &&& 63)) / v8)))), none, some (.inl (v14 + Int32.ofInt (1)))]) (st1 := []) rfl ?_
      exact ih v0 v2 v4 v6 v7 v8 ((v10 <<< (Int32.toInt64 (10 : Int32) &&& 63)) - (v10 <<< (Int32.toInt64 (10 : Int32) &&& 63)) / v8 * v8) ((v12 <<< (Int32.toInt64 (10 : Int32) &&& 63)) ||| ((v10 <<< (Int32.toInt64 (10 : Int32) &&& 63)) / v8)) (v14 + Int32.ofInt (1)) (by refine ⟨hI.1, ?_⟩; have h1 := i_ge_f hb88; have h2 : (6 : Int32).toInt = 6 := (by decide); have h3 := i_add (x := v14) 1 (by omega) (by omega) (by omega) (by omega); omega)
def t_Re_quotient_80 (v0 : Int64) (v2 : Int64) (v4 : Int64) (v6 : Int32) (v7 : Int32) (v8 : Int64) (v10 : Int64) (v12 : Int64) : Int64 := (t_Re_quotient_86 7 v0 v2 v4 v6 v7 v8 (v10 - v10 / v8 * v8) v12 (0 : Int32))
theorem ct_Re_quotient_80 {d : Nat} {P : AP} (v0 : Int64) (v2 : Int64) (v4 : Int64) (v6 : Int32) (v7 : Int32) (v8 : Int64) (v10 : Int64) (v12 : Int64) (hI : ¬ v8 = 0) : X m_Re_quotient (d + 2) 80 [some (.inr (.inl v0)), none, some (.inr (.inl v2)), none, some (.inr (.inl v4)), none, some (.inl v6), some (.inl v7), some (.inr (.inl v8)), none, some (.inr (.inl v10)), none, some (.inr (.inl v12)), none, none] [] P (qL P (t_Re_quotient_80 v0 v2 v4 v6 v7 v8 v10 v12)) := by
  unfold t_Re_quotient_80
  refine X_run 2 (i1 := 82) (L1 := [some (.inr (.inl v0)), none, some (.inr (.inl v2)), none, some (.inr (.inl v4)), none, some (.inl v6), some (.inl v7), some (.inr (.inl v8)), none, some (.inr (.inl v10)), none, some (.inr (.inl v12)), none, none]) (st1 := [.inr (.inl v8), .inr (.inl v10)]) rfl ?_
  refine X_lrem rfl (by first | exact hI | exact hI.1 | exact ne0_t (by assumption) | exact ne0_f (by assumption)) ?_
  refine X_run 3 (i1 := 86) (L1 := [some (.inr (.inl v0)), none, some (.inr (.inl v2)), none, some (.inr (.inl v4)), none, some (.inl v6), some (.inl v7), some (.inr (.inl v8)), none, some (.inr (.inl (v10 - v10 / v8 * v8))), none, some (.inr (.inl v12)), none, some (.inl (0 : Int32))]) (st1 := []) rfl ?_
  exact ct_Re_quotient_86 7 v0 v2 v4 v6 v7 v8 (v10 - v10 / v8 * v8) v12 (0 : Int32) (by exact ⟨by first | exact hI | exact ne0_t (by assumption), by decide, by decide, by decide⟩)
def t_Re_quotient_24 (v0 : Int64) (v2 : Int64) (v4 : Int64) : Int64 := (cond (cn1 .eq (lg_cmp (f_Re_size v2) (9218868437227405312 : Int64))) (9221120237041090560 : Int64) (cond (cn1 .ne (lg_cmp (f_Re_size v0) (0 : Int64))) (v4 ||| (9218868437227405312 : Int64)) (9221120237041090560 : Int64)))
theorem ct_Re_quotient_24 {d : Nat} {P : AP} (v0 : Int64) (v2 : Int64) (v4 : Int64) : X m_Re_quotient (d + 2) 24 [some (.inr (.inl v0)), none, some (.inr (.inl v2)), none, some (.inr (.inl v4)), none, none, none, none, none, none, none, none, none, none] [] P (qL P (t_Re_quotient_24 v0 v2 v4)) := by
  unfold t_Re_quotient_24
  refine X_run 1 (i1 := 25) (L1 := [some (.inr (.inl v0)), none, some (.inr (.inl v2)), none, some (.inr (.inl v4)), none, none, none, none, none, none, none, none, none, none]) (st1 := [.inr (.inl v2)]) rfl ?_
  refine X_calls m_Re_size (As := [.inr (.inl v2)]) (st := []) ok_Re_size rfl rfl rfl (Nat.le_of_ble_eq_true rfl) (Nat.le_of_ble_eq_true rfl) (c_Re_size (d := d + 1) v2) ?_
  rintro _ _ ⟨rfl, rfl⟩
  show X _ _ 26 [some (.inr (.inl v0)), none, some (.inr (.inl v2)), none, some (.inr (.inl v4)), none, none, none, none, none, none, none, none, none, none] [.inr (.inl (f_Re_size v2))] _ _
  refine X_run 3 (i1 := cond (cn1 .eq (lg_cmp (f_Re_size v2) (9218868437227405312 : Int64))) 34 29) (L1 := [some (.inr (.inl v0)), none, some (.inr (.inl v2)), none, some (.inr (.inl v4)), none, none, none, none, none, none, none, none, none, none]) (st1 := []) rfl ?_
  refine X_brq (fun hb28 => ?_) (fun hb28 => ?_)
  · refine X_run 2 (i1 := 39) (L1 := [some (.inr (.inl v0)), none, some (.inr (.inl v2)), none, some (.inr (.inl v4)), none, none, none, none, none, none, none, none, none, none]) (st1 := [.inr (.inl (9221120237041090560 : Int64))]) rfl ?_
    exact X_lret rfl rfl ⟨rfl, rfl⟩
  · refine X_run 1 (i1 := 30) (L1 := [some (.inr (.inl v0)), none, some (.inr (.inl v2)), none, some (.inr (.inl v4)), none, none, none, none, none, none, none, none, none, none]) (st1 := [.inr (.inl v0)]) rfl ?_
    refine X_calls m_Re_size (As := [.inr (.inl v0)]) (st := []) ok_Re_size rfl rfl rfl (Nat.le_of_ble_eq_true rfl) (Nat.le_of_ble_eq_true rfl) (c_Re_size (d := d + 1) v0) ?_
    rintro _ _ ⟨rfl, rfl⟩
    show X _ _ 31 [some (.inr (.inl v0)), none, some (.inr (.inl v2)), none, some (.inr (.inl v4)), none, none, none, none, none, none, none, none, none, none] [.inr (.inl (f_Re_size v0))] _ _
    refine X_run 3 (i1 := cond (cn1 .ne (lg_cmp (f_Re_size v0) (0 : Int64))) 36 34) (L1 := [some (.inr (.inl v0)), none, some (.inr (.inl v2)), none, some (.inr (.inl v4)), none, none, none, none, none, none, none, none, none, none]) (st1 := []) rfl ?_
    refine X_brq (fun hb33 => ?_) (fun hb33 => ?_)
    · refine X_run 3 (i1 := 39) (L1 := [some (.inr (.inl v0)), none, some (.inr (.inl v2)), none, some (.inr (.inl v4)), none, none, none, none, none, none, none, none, none, none]) (st1 := [.inr (.inl (v4 ||| (9218868437227405312 : Int64)))]) rfl ?_
      exact X_lret rfl rfl ⟨rfl, rfl⟩
    · refine X_run 2 (i1 := 39) (L1 := [some (.inr (.inl v0)), none, some (.inr (.inl v2)), none, some (.inr (.inl v4)), none, none, none, none, none, none, none, none, none, none]) (st1 := [.inr (.inl (9221120237041090560 : Int64))]) rfl ?_
      exact X_lret rfl rfl ⟨rfl, rfl⟩
def f_Re_quotient (a0 : Int64) (a1 : Int64) : Int64 := (cond (cn1 .ne (b2i (f_Re_isNan a0))) (9221120237041090560 : Int64) (cond (cn1 .eq (b2i (f_Re_isNan a1))) (cond (cn1 .eq (lg_cmp (f_Re_size a0) (9218868437227405312 : Int64))) (t_Re_quotient_24 a0 a1 ((a0 ^^^ a1) &&& (-9223372036854775808 : Int64))) (cond (cn1 .ne (lg_cmp (f_Re_size a1) (0 : Int64))) (cond (cn1 .eq (lg_cmp (f_Re_size a1) (9218868437227405312 : Int64))) ((a0 ^^^ a1) &&& (-9223372036854775808 : Int64)) (cond (cn1 .ne (lg_cmp (f_Re_size a0) (0 : Int64))) (cond (cn1 .ne (lg_cmp ((f_Re_mantissa a1) <<< (Int32.toInt64 (f_Re_gap (f_Re_mantissa a1)) &&& 63)) (0 : Int64))) (t_Re_quotient_80 a0 a1 ((a0 ^^^ a1) &&& (-9223372036854775808 : Int64)) (f_Re_gap (f_Re_mantissa a0)) (f_Re_gap (f_Re_mantissa a1)) ((f_Re_mantissa a1) <<< (Int32.toInt64 (f_Re_gap (f_Re_mantissa a1)) &&& 63)) ((f_Re_mantissa a0) <<< (Int32.toInt64 (f_Re_gap (f_Re_mantissa a0)) &&& 63)) (((f_Re_mantissa a0) <<< (Int32.toInt64 (f_Re_gap (f_Re_mantissa a0)) &&& 63)) / ((f_Re_mantissa a1) <<< (Int32.toInt64 (f_Re_gap (f_Re_mantissa a1)) &&& 63)))) (9221120237041090560 : Int64)) ((a0 ^^^ a1) &&& (-9223372036854775808 : Int64)))) (t_Re_quotient_24 a0 a1 ((a0 ^^^ a1) &&& (-9223372036854775808 : Int64))))) (9221120237041090560 : Int64)))
theorem c_Re_quotient {d : Nat} {P : AP} (a0 : Int64) (a1 : Int64) : X m_Re_quotient (d + 2) 0 (entL 15 [.inr (.inl a0), .inr (.inl a1)]) [] P (qL P (f_Re_quotient a0 a1)) := by
  unfold f_Re_quotient
  refine X_run 7 (i1 := 7) (L1 := [some (.inr (.inl a0)), none, some (.inr (.inl a1)), none, some (.inr (.inl ((a0 ^^^ a1) &&& (-9223372036854775808 : Int64)))), none, none, none, none, none, none, none, none, none, none]) (st1 := [.inr (.inl a0)]) rfl ?_
  refine X_calls m_Re_isNan (As := [.inr (.inl a0)]) (st := []) ok_Re_isNan rfl rfl rfl (Nat.le_of_ble_eq_true rfl) (Nat.le_of_ble_eq_true rfl) (c_Re_isNan (d := d + 1) a0) ?_
  rintro _ _ ⟨rfl, rfl⟩
  show X _ _ 8 [some (.inr (.inl a0)), none, some (.inr (.inl a1)), none, some (.inr (.inl ((a0 ^^^ a1) &&& (-9223372036854775808 : Int64)))), none, none, none, none, none, none, none, none, none, none] [.inl (b2i (f_Re_isNan a0))] _ _
  refine X_run 1 (i1 := cond (cn1 .ne (b2i (f_Re_isNan a0))) 12 9) (L1 := [some (.inr (.inl a0)), none, some (.inr (.inl a1)), none, some (.inr (.inl ((a0 ^^^ a1) &&& (-9223372036854775808 : Int64)))), none, none, none, none, none, none, none, none, none, none]) (st1 := []) rfl ?_
  refine X_brq (fun hb8 => ?_) (fun hb8 => ?_)
  · refine X_run 1 (i1 := 13) (L1 := [some (.inr (.inl a0)), none, some (.inr (.inl a1)), none, some (.inr (.inl ((a0 ^^^ a1) &&& (-9223372036854775808 : Int64)))), none, none, none, none, none, none, none, none, none, none]) (st1 := [.inr (.inl (9221120237041090560 : Int64))]) rfl ?_
    exact X_lret rfl rfl ⟨rfl, rfl⟩
  · refine X_run 1 (i1 := 10) (L1 := [some (.inr (.inl a0)), none, some (.inr (.inl a1)), none, some (.inr (.inl ((a0 ^^^ a1) &&& (-9223372036854775808 : Int64)))), none, none, none, none, none, none, none, none, none, none]) (st1 := [.inr (.inl a1)]) rfl ?_
    refine X_calls m_Re_isNan (As := [.inr (.inl a1)]) (st := []) ok_Re_isNan rfl rfl rfl (Nat.le_of_ble_eq_true rfl) (Nat.le_of_ble_eq_true rfl) (c_Re_isNan (d := d + 1) a1) ?_
    rintro _ _ ⟨rfl, rfl⟩
    show X _ _ 11 [some (.inr (.inl a0)), none, some (.inr (.inl a1)), none, some (.inr (.inl ((a0 ^^^ a1) &&& (-9223372036854775808 : Int64)))), none, none, none, none, none, none, none, none, none, none] [.inl (b2i (f_Re_isNan a1))] _ _
    refine X_run 1 (i1 := cond (cn1 .eq (b2i (f_Re_isNan a1))) 14 12) (L1 := [some (.inr (.inl a0)), none, some (.inr (.inl a1)), none, some (.inr (.inl ((a0 ^^^ a1) &&& (-9223372036854775808 : Int64)))), none, none, none, none, none, none, none, none, none, none]) (st1 := []) rfl ?_
    refine X_brq (fun hb11 => ?_) (fun hb11 => ?_)
    · refine X_run 1 (i1 := 15) (L1 := [some (.inr (.inl a0)), none, some (.inr (.inl a1)), none, some (.inr (.inl ((a0 ^^^ a1) &&& (-9223372036854775808 : Int64)))), none, none, none, none, none, none, none, none, none, none]) (st1 := [.inr (.inl a0)]) rfl ?_
      refine X_calls m_Re_size (As := [.inr (.inl a0)]) (st := []) ok_Re_size rfl rfl rfl (Nat.le_of_ble_eq_true rfl) (Nat.le_of_ble_eq_true rfl) (c_Re_size (d := d + 1) a0) ?_
      rintro _ _ ⟨rfl, rfl⟩
      show X _ _ 16 [some (.inr (.inl a0)), none, some (.inr (.inl a1)), none, some (.inr (.inl ((a0 ^^^ a1) &&& (-9223372036854775808 : Int64)))), none, none, none, none, none, none, none, none, none, none] [.inr (.inl (f_Re_size a0))] _ _
      refine X_run 3 (i1 := cond (cn1 .eq (lg_cmp (f_Re_size a0) (9218868437227405312 : Int64))) 24 19) (L1 := [some (.inr (.inl a0)), none, some (.inr (.inl a1)), none, some (.inr (.inl ((a0 ^^^ a1) &&& (-9223372036854775808 : Int64)))), none, none, none, none, none, none, none, none, none, none]) (st1 := []) rfl ?_
      refine X_brq (fun hb18 => ?_) (fun hb18 => ?_)
      · exact ct_Re_quotient_24 a0 a1 ((a0 ^^^ a1) &&& (-9223372036854775808 : Int64))
      · refine X_run 1 (i1 := 20) (L1 := [some (.inr (.inl a0)), none, some (.inr (.inl a1)), none, some (.inr (.inl ((a0 ^^^ a1) &&& (-9223372036854775808 : Int64)))), none, none, none, none, none, none, none, none, none, none]) (st1 := [.inr (.inl a1)]) rfl ?_
        refine X_calls m_Re_size (As := [.inr (.inl a1)]) (st := []) ok_Re_size rfl rfl rfl (Nat.le_of_ble_eq_true rfl) (Nat.le_of_ble_eq_true rfl) (c_Re_size (d := d + 1) a1) ?_
        rintro _ _ ⟨rfl, rfl⟩
        show X _ _ 21 [some (.inr (.inl a0)), none, some (.inr (.inl a1)), none, some (.inr (.inl ((a0 ^^^ a1) &&& (-9223372036854775808 : Int64)))), none, none, none, none, none, none, none, none, none, none] [.inr (.inl (f_Re_size a1))] _ _
        refine X_run 3 (i1 := cond (cn1 .ne (lg_cmp (f_Re_size a1) (0 : Int64))) 40 24) (L1 := [some (.inr (.inl a0)), none, some (.inr (.inl a1)), none, some (.inr (.inl ((a0 ^^^ a1) &&& (-9223372036854775808 : Int64)))), none, none, none, none, none, none, none, none, none, none]) (st1 := []) rfl ?_
        refine X_brq (fun hb23 => ?_) (fun hb23 => ?_)
        · refine X_run 1 (i1 := 41) (L1 := [some (.inr (.inl a0)), none, some (.inr (.inl a1)), none, some (.inr (.inl ((a0 ^^^ a1) &&& (-9223372036854775808 : Int64)))), none, none, none, none, none, none, none, none, none, none]) (st1 := [.inr (.inl a1)]) rfl ?_
          refine X_calls m_Re_size (As := [.inr (.inl a1)]) (st := []) ok_Re_size rfl rfl rfl (Nat.le_of_ble_eq_true rfl) (Nat.le_of_ble_eq_true rfl) (c_Re_size (d := d + 1) a1) ?_
          rintro _ _ ⟨rfl, rfl⟩
          show X _ _ 42 [some (.inr (.inl a0)), none, some (.inr (.inl a1)), none, some (.inr (.inl ((a0 ^^^ a1) &&& (-9223372036854775808 : Int64)))), none, none, none, none, none, none, none, none, none, none] [.inr (.inl (f_Re_size a1))] _ _
          refine X_run 3 (i1 := cond (cn1 .eq (lg_cmp (f_Re_size a1) (9218868437227405312 : Int64))) 50 45) (L1 := [some (.inr (.inl a0)), none, some (.inr (.inl a1)), none, some (.inr (.inl ((a0 ^^^ a1) &&& (-9223372036854775808 : Int64)))), none, none, none, none, none, none, none, none, none, none]) (st1 := []) rfl ?_
          refine X_brq (fun hb44 => ?_) (fun hb44 => ?_)
          · refine X_run 1 (i1 := 51) (L1 := [some (.inr (.inl a0)), none, some (.inr (.inl a1)), none, some (.inr (.inl ((a0 ^^^ a1) &&& (-9223372036854775808 : Int64)))), none, none, none, none, none, none, none, none, none, none]) (st1 := [.inr (.inl ((a0 ^^^ a1) &&& (-9223372036854775808 : Int64)))]) rfl ?_
            exact X_lret rfl rfl ⟨rfl, rfl⟩
          · refine X_run 1 (i1 := 46) (L1 := [some (.inr (.inl a0)), none, some (.inr (.inl a1)), none, some (.inr (.inl ((a0 ^^^ a1) &&& (-9223372036854775808 : Int64)))), none, none, none, none, none, none, none, none, none, none]) (st1 := [.inr (.inl a0)]) rfl ?_
            refine X_calls m_Re_size (As := [.inr (.inl a0)]) (st := []) ok_Re_size rfl rfl rfl (Nat.le_of_ble_eq_true rfl) (Nat.le_of_ble_eq_true rfl) (c_Re_size (d := d + 1) a0) ?_
            rintro _ _ ⟨rfl, rfl⟩
            show X _ _ 47 [some (.inr (.inl a0)), none, some (.inr (.inl a1)), none, some (.inr (.inl ((a0 ^^^ a1) &&& (-9223372036854775808 : Int64)))), none, none, none, none, none, none, none, none, none, none] [.inr (.inl (f_Re_size a0))] _ _
            refine X_run 3 (i1 := cond (cn1 .ne (lg_cmp (f_Re_size a0) (0 : Int64))) 52 50) (L1 := [some (.inr (.inl a0)), none, some (.inr (.inl a1)), none, some (.inr (.inl ((a0 ^^^ a1) &&& (-9223372036854775808 : Int64)))), none, none, none, none, none, none, none, none, none, none]) (st1 := []) rfl ?_
            refine X_brq (fun hb49 => ?_) (fun hb49 => ?_)
            · refine X_run 1 (i1 := 53) (L1 := [some (.inr (.inl a0)), none, some (.inr (.inl a1)), none, some (.inr (.inl ((a0 ^^^ a1) &&& (-9223372036854775808 : Int64)))), none, none, none, none, none, none, none, none, none, none]) (st1 := [.inr (.inl a0)]) rfl ?_
              refine X_calls m_Re_mantissa (As := [.inr (.inl a0)]) (st := []) ok_Re_mantissa rfl rfl rfl (Nat.le_of_ble_eq_true rfl) (Nat.le_of_ble_eq_true rfl) (c_Re_mantissa (d := d + 1) a0) ?_
              rintro _ _ ⟨rfl, rfl⟩
              show X _ _ 54 [some (.inr (.inl a0)), none, some (.inr (.inl a1)), none, some (.inr (.inl ((a0 ^^^ a1) &&& (-9223372036854775808 : Int64)))), none, none, none, none, none, none, none, none, none, none] [.inr (.inl (f_Re_mantissa a0))] _ _
              refine X_calls m_Re_gap (As := [.inr (.inl (f_Re_mantissa a0))]) (st := []) ok_Re_gap rfl rfl rfl (Nat.le_of_ble_eq_true rfl) (Nat.le_of_ble_eq_true rfl) (c_Re_gap (d := d + 1) (f_Re_mantissa a0)) ?_
              rintro _ _ ⟨rfl, rfl⟩
              show X _ _ 55 [some (.inr (.inl a0)), none, some (.inr (.inl a1)), none, some (.inr (.inl ((a0 ^^^ a1) &&& (-9223372036854775808 : Int64)))), none, none, none, none, none, none, none, none, none, none] [.inl (f_Re_gap (f_Re_mantissa a0))] _ _
              refine X_run 2 (i1 := 57) (L1 := [some (.inr (.inl a0)), none, some (.inr (.inl a1)), none, some (.inr (.inl ((a0 ^^^ a1) &&& (-9223372036854775808 : Int64)))), none, some (.inl (f_Re_gap (f_Re_mantissa a0))), none, none, none, none, none, none, none, none]) (st1 := [.inr (.inl a1)]) rfl ?_
              refine X_calls m_Re_mantissa (As := [.inr (.inl a1)]) (st := []) ok_Re_mantissa rfl rfl rfl (Nat.le_of_ble_eq_true rfl) (Nat.le_of_ble_eq_true rfl) (c_Re_mantissa (d := d + 1) a1) ?_
              rintro _ _ ⟨rfl, rfl⟩
              show X _ _ 58 [some (.inr (.inl a0)), none, some (.inr (.inl a1)), none, some (.inr (.inl ((a0 ^^^ a1) &&& (-9223372036854775808 : Int64)))), none, some (.inl (f_Re_gap (f_Re_mantissa a0))), none, none, none, none, none, none, none, none] [.inr (.inl (f_Re_mantissa a1))] _ _
              refine X_calls m_Re_gap (As := [.inr (.inl (f_Re_mantissa a1))]) (st := []) ok_Re_gap rfl rfl rfl (Nat.le_of_ble_eq_true rfl) (Nat.le_of_ble_eq_true rfl) (c_Re_gap (d := d + 1) (f_Re_mantissa a1)) ?_
              rintro _ _ ⟨rfl, rfl⟩
              show X _ _ 59 [some (.inr (.inl a0)), none, some (.inr (.inl a1)), none, some (.inr (.inl ((a0 ^^^ a1) &&& (-9223372036854775808 : Int64)))), none, some (.inl (f_Re_gap (f_Re_mantissa a0))), none, none, none, none, none, none, none, none] [.inl (f_Re_gap (f_Re_mantissa a1))] _ _
              refine X_run 2 (i1 := 61) (L1 := [some (.inr (.inl a0)), none, some (.inr (.inl a1)), none, some (.inr (.inl ((a0 ^^^ a1) &&& (-9223372036854775808 : Int64)))), none, some (.inl (f_Re_gap (f_Re_mantissa a0))), some (.inl (f_Re_gap (f_Re_mantissa a1))), none, none, none, none, none, none, none]) (st1 := [.inr (.inl a1)]) rfl ?_
              refine X_calls m_Re_mantissa (As := [.inr (.inl a1)]) (st := []) ok_Re_mantissa rfl rfl rfl (Nat.le_of_ble_eq_true rfl) (Nat.le_of_ble_eq_true rfl) (c_Re_mantissa (d := d + 1) a1) ?_
              rintro _ _ ⟨rfl, rfl⟩
              show X _ _ 62 [some (.inr (.inl a0)), none, some (.inr (.inl a1)), none, some (.inr (.inl ((a0 ^^^ a1) &&& (-9223372036854775808 : Int64)))), none, some (.inl (f_Re_gap (f_Re_mantissa a0))), some (.inl (f_Re_gap (f_Re_mantissa a1))), none, none, none, none, none, none, none] [.inr (.inl (f_Re_mantissa a1))] _ _
              refine X_run 4 (i1 := 66) (L1 := [some (.inr (.inl a0)), none, some (.inr (.inl a1)), none, some (.inr (.inl ((a0 ^^^ a1) &&& (-9223372036854775808 : Int64)))), none, some (.inl (f_Re_gap (f_Re_mantissa a0))), some (.inl (f_Re_gap (f_Re_mantissa a1))), some (.inr (.inl ((f_Re_mantissa a1) <<< (Int32.toInt64 (f_Re_gap (f_Re_mantissa a1)) &&& 63)))), none, none, none, none, none, none]) (st1 := [.inr (.inl a0)]) rfl ?_
              refine X_calls m_Re_mantissa (As := [.inr (.inl a0)]) (st := []) ok_Re_mantissa rfl rfl rfl (Nat.le_of_ble_eq_true rfl) (Nat.le_of_ble_eq_true rfl) (c_Re_mantissa (d := d + 1) a0) ?_
              rintro _ _ ⟨rfl, rfl⟩
              show X _ _ 67 [some (.inr (.inl a0)), none, some (.inr (.inl a1)), none, some (.inr (.inl ((a0 ^^^ a1) &&& (-9223372036854775808 : Int64)))), none, some (.inl (f_Re_gap (f_Re_mantissa a0))), some (.inl (f_Re_gap (f_Re_mantissa a1))), some (.inr (.inl ((f_Re_mantissa a1) <<< (Int32.toInt64 (f_Re_gap (f_Re_mantissa a1)) &&& 63)))), none, none, none, none, none, none] [.inr (.inl (f_Re_mantissa a0))] _ _
              refine X_run 7 (i1 := cond (cn1 .ne (lg_cmp ((f_Re_mantissa a1) <<< (Int32.toInt64 (f_Re_gap (f_Re_mantissa a1)) &&& 63)) (0 : Int64))) 76 74) (L1 := [some (.inr (.inl a0)), none, some (.inr (.inl a1)), none, some (.inr (.inl ((a0 ^^^ a1) &&& (-9223372036854775808 : Int64)))), none, some (.inl (f_Re_gap (f_Re_mantissa a0))), some (.inl (f_Re_gap (f_Re_mantissa a1))), some (.inr (.inl ((f_Re_mantissa a1) <<< (Int32.toInt64 (f_Re_gap (f_Re_mantissa a1)) &&& 63)))), none, some (.inr (.inl ((f_Re_mantissa a0) <<< (Int32.toInt64 (f_Re_gap (f_Re_mantissa a0)) &&& 63)))), none, none, none, none]) (st1 := []) rfl ?_
              refine X_brq (fun hb73 => ?_) (fun hb73 => ?_)
              · refine X_run 2 (i1 := 78) (L1 := [some (.inr (.inl a0)), none, some (.inr (.inl a1)), none, some (.inr (.inl ((a0 ^^^ a1) &&& (-9223372036854775808 : Int64)))), none, some (.inl (f_Re_gap (f_Re_mantissa a0))), some (.inl (f_Re_gap (f_Re_mantissa a1))), some (.inr (.inl ((f_Re_mantissa a1) <<< (Int32.toInt64 (f_Re_gap (f_Re_mantissa a1)) &&& 63)))), none, some (.inr (.inl ((f_Re_mantissa a0) <<< (Int32.toInt64 (f_Re_gap (f_Re_mantissa a0)) &&& 63)))), none, none, none, none]) (st1 := [.inr (.inl ((f_Re_mantissa a1) <<< (Int32.toInt64 (f_Re_gap (f_Re_mantissa a1)) &&& 63))), .inr (.inl ((f_Re_mantissa a0) <<< (Int32.toInt64 (f_Re_gap (f_Re_mantissa a0)) &&& 63)))]) rfl ?_
                refine X_ldiv rfl (by first | exact hI | exact hI.1 | exact ne0_t (by assumption) | exact ne0_f (by assumption)) ?_
                refine X_run 1 (i1 := 80) (L1 := [some (.inr (.inl a0)), none, some (.inr (.inl a1)), none, some (.inr (.inl ((a0 ^^^ a1) &&& (-9223372036854775808 : Int64)))), none, some (.inl (f_Re_gap (f_Re_mantissa a0))), some (.inl (f_Re_gap (f_Re_mantissa a1))), some (.inr (.inl ((f_Re_mantissa a1) <<< (Int32.toInt64 (f_Re_gap (f_Re_mantissa a1)) &&& 63)))), none, some (.inr (.inl ((f_Re_mantissa a0) <<< (Int32.toInt64 (f_Re_gap (f_Re_mantissa a0)) &&& 63)))), none, some (.inr (.inl (((f_Re_mantissa a0) <<< (Int32.toInt64 (f_Re_gap (f_Re_mantissa a0)) &&& 63)) / ((f_Re_mantissa a1) <<< (Int32.toInt64 (f_Re_gap (f_Re_mantissa a1)) &&& 63))))), none, none]) (st1 := []) rfl ?_
                exact ct_Re_quotient_80 a0 a1 ((a0 ^^^ a1) &&& (-9223372036854775808 : Int64)) (f_Re_gap (f_Re_mantissa a0)) (f_Re_gap (f_Re_mantissa a1)) ((f_Re_mantissa a1) <<< (Int32.toInt64 (f_Re_gap (f_Re_mantissa a1)) &&& 63)) ((f_Re_mantissa a0) <<< (Int32.toInt64 (f_Re_gap (f_Re_mantissa a0)) &&& 63)) (((f_Re_mantissa a0) <<< (Int32.toInt64 (f_Re_gap (f_Re_mantissa a0)) &&& 63)) / ((f_Re_mantissa a1) <<< (Int32.toInt64 (f_Re_gap (f_Re_mantissa a1)) &&& 63))) (by exact ne0_t (by assumption))
              · refine X_run 1 (i1 := 75) (L1 := [some (.inr (.inl a0)), none, some (.inr (.inl a1)), none, some (.inr (.inl ((a0 ^^^ a1) &&& (-9223372036854775808 : Int64)))), none, some (.inl (f_Re_gap (f_Re_mantissa a0))), some (.inl (f_Re_gap (f_Re_mantissa a1))), some (.inr (.inl ((f_Re_mantissa a1) <<< (Int32.toInt64 (f_Re_gap (f_Re_mantissa a1)) &&& 63)))), none, some (.inr (.inl ((f_Re_mantissa a0) <<< (Int32.toInt64 (f_Re_gap (f_Re_mantissa a0)) &&& 63)))), none, none, none, none]) (st1 := [.inr (.inl (9221120237041090560 : Int64))]) rfl ?_
                exact X_lret rfl rfl ⟨rfl, rfl⟩
            · refine X_run 1 (i1 := 51) (L1 := [some (.inr (.inl a0)), none, some (.inr (.inl a1)), none, some (.inr (.inl ((a0 ^^^ a1) &&& (-9223372036854775808 : Int64)))), none, none, none, none, none, none, none, none, none, none]) (st1 := [.inr (.inl ((a0 ^^^ a1) &&& (-9223372036854775808 : Int64)))]) rfl ?_
              exact X_lret rfl rfl ⟨rfl, rfl⟩
        · exact ct_Re_quotient_24 a0 a1 ((a0 ^^^ a1) &&& (-9223372036854775808 : Int64))
    · refine X_run 1 (i1 := 13) (L1 := [some (.inr (.inl a0)), none, some (.inr (.inl a1)), none, some (.inr (.inl ((a0 ^^^ a1) &&& (-9223372036854775808 : Int64)))), none, none, none, none, none, none, none, none, none, none]) (st1 := [.inr (.inl (9221120237041090560 : Int64))]) rfl ?_
      exact X_lret rfl rfl ⟨rfl, rfl⟩
def t_Re_remainder_69 : Nat → Int64 → Int64 → Int32 → Int64 → Int32 → Int64
  | 0, _, _, _, _, _ => 0
  | n + 1, v0, v6, v8, v9, v11 => (cond (cn1 .le v11) ((v0 &&& (-9223372036854775808 : Int64)) ||| (f_Re_rounded v9 v8 (52 : Int32) (1023 : Int32))) (t_Re_remainder_69 n v0 v6 v8 ((v9 <<< (Int32.toInt64 (if (10 : Int32) < v11 then (10 : Int32) else v11) &&& 63)) - (v9 <<< (Int32.toInt64 (if (10 : Int32) < v11 then (10 : Int32) else v11) &&& 63)) / v6 * v6) (v11 + Int32.ofInt (-10))))
theorem ct_Re_remainder_69 {d : Nat} {P : AP} : ∀ (n : Nat) (v0 : Int64) (v6 : Int64) (v8 : Int32) (v9 : Int64) (v11 : Int32), ¬ v6 = 0 ∧ 0 < n ∧ v11.toInt ≤ 10 * (n : Int) - 10 → X m_Re_remainder (d + 2) 69 [some (.inr (.inl v0)), none, none, none, none, none, some (.inr (.inl v6)), none, some (.inl v8), some (.inr (.inl v9)), none, some (.inl v11)] [] P (qL P (t_Re_remainder_69 n v0 v6 v8 v9 v11))
  | 0, v0, v6, v8, v9, v11, hI => by exfalso; omega
  | n + 1, v0, v6, v8, v9, v11, hI => by
    have ih := @ct_Re_remainder_69 d P n
    unfold t_Re_remainder_69
    refine X_run 2 (i1 := cond (cn1 .le v11) 81 71) (L1 := [some (.inr (.inl v0)), none, none, none, none, none, some (.inr (.inl v6)), none, some (.inl v8), some (.inr (.inl v9)), none, some (.inl v11)]) (st1 := []) rfl ?_
    refine X_brq (fun hb70 => ?_) (fun hb70 => ?_)
    · refine X_run 7 (i1 := 88) (L1 := [some (.inr (.inl v0)), none, none, none, none, none, some (.inr (.inl v6)), none, some (.inl v8), some (.inr (.inl v9)), none, some (.inl v11)]) (st1 := [.inl (1023 : Int32), .inl (52 : Int32), .inl v8, .inr (.inl v9), .inr (.inl (v0 &&& (-9223372036854775808 : Int64)))]) rfl ?_
      refine X_calls m_Re_rounded (As := [.inr (.inl v9), .inl v8, .inl (52 : Int32), .inl (1023 : Int32)]) (st := [.inr (.inl (v0 &&& (-9223372036854775808 : Int64)))]) ok_Re_rounded rfl rfl rfl (Nat.le_of_ble_eq_true rfl) (Nat.le_of_ble_eq_true rfl) (c_Re_rounded (d := d + 1) v9 v8 (52 : Int32) (1023 : Int32)) ?_
      rintro _ _ ⟨rfl, rfl⟩
      show X _ _ 89 [some (.inr (.inl v0)), none, none, none, none, none, some (.inr (.inl v6)), none, some (.inl v8), some (.inr (.inl v9)), none, some (.inl v11)] [.inr (.inl (f_Re_rounded v9 v8 (52 : Int32) (1023 : Int32))), .inr (.inl (v0 &&& (-9223372036854775808 : Int64)))] _ _
      refine X_run 1 (i1 := 90) (L1 := [some (.inr (.inl v0)), none, none, none, none, none, some (.inr (.inl v6)), none, some (.inl v8), some (.inr (.inl v9)), none, some (.inl v11)]) (st1 := [.inr (.inl ((v0 &&& (-9223372036854775808 : Int64)) ||| (f_Re_rounded v9 v8 (52 : Int32) (1023 : Int32))))]) rfl ?_
      exact X_lret rfl rfl ⟨rfl, rfl⟩
    · refine X_run 3 (i1 := 74) (L1 := [some (.inr (.inl v0)), none, none, none, none, none, some (.inr (.inl v6)), none, some (.inl v8), some (.inr (.inl v9)), none, some (.inl v11)]) (st1 := [.inl (10 : Int32), .inl v11, .inr (.inl v9)]) rfl ?_
      refine X_mmin rfl (Nat.le_of_ble_eq_true rfl) ?_
      refine X_run 2 (i1 := 77) (L1 := [some (.inr (.inl v0)), none, none, none, none, none, some (.inr (.inl v6)), none, some (.inl v8), some (.inr (.inl v9)), none, some (.inl v11)]) (st1 := [.inr (.inl v6), .inr (.inl (v9 <<< (Int32.toInt64 (if (10 : Int32) < v11 then (10 : Int32) else v11) &&& 63)))]) rfl ?_
      refine X_lrem rfl (by first | exact hI | exact hI.1 | exact ne0_t (by assumption) | exact ne0_f (by assumption)) ?_
      refine X_run 3 (i1 := 69) (L1 := [some (.inr (.inl v0)), none, none, none, none, none, some (.inr (.inl v6)), none, some (.inl v8), some (.inr (.inl ((v9 <<< (Int32.toInt64 (if (10 : Int32) < v11 then (10 : Int32) else v11) &&& 63)) - (v9 <<< (Int32.toInt64 (if (10 : Int32) < v11 then (10 : Int32) else v11) &&& 63)) / v6 * v6))), none, some (.inl (v11 + Int32.ofInt (-10)))]) (st1 := []) rfl ?_
      exact ih v0 v6 v8 ((v9 <<< (Int32.toInt64 (if (10 : Int32) < v11 then (10 : Int32) else v11) &&& 63)) - (v9 <<< (Int32.toInt64 (if (10 : Int32) < v11 then (10 : Int32) else v11) &&& 63)) / v6 * v6) (v11 + Int32.ofInt (-10)) (by have h1 := j_le_f hb70; have h3 := i_add (x := v11) (-10) (by omega) (by have := v11.toInt_lt; omega) (by omega) (by omega); exact ⟨hI.1, by omega, by omega⟩)
def t_Re_remainder_62 (v0 : Int64) (v4 : Int32) (v6 : Int64) (v8 : Int32) (v9 : Int64) : Int64 := (t_Re_remainder_69 ((Int32.toInt (((f_Re_exponent v0) - v4) - v8)).toNat / 10 + 2) v0 v6 v8 v9 (((f_Re_exponent v0) - v4) - v8))
theorem ct_Re_remainder_62 {d : Nat} {P : AP} (v0 : Int64) (v4 : Int32) (v6 : Int64) (v8 : Int32) (v9 : Int64) (hI : ¬ v6 = 0) : X m_Re_remainder (d + 2) 62 [some (.inr (.inl v0)), none, none, none, some (.inl v4), none, some (.inr (.inl v6)), none, some (.inl v8), some (.inr (.inl v9)), none, none] [] P (qL P (t_Re_remainder_62 v0 v4 v6 v8 v9)) := by
  unfold t_Re_remainder_62
  refine X_run 1 (i1 := 63) (L1 := [some (.inr (.inl v0)), none, none, none, some (.inl v4), none, some (.inr (.inl v6)), none, some (.inl v8), some (.inr (.inl v9)), none, none]) (st1 := [.inr (.inl v0)]) rfl ?_
  refine X_calls m_Re_exponent (As := [.inr (.inl v0)]) (st := []) ok_Re_exponent rfl rfl rfl (Nat.le_of_ble_eq_true rfl) (Nat.le_of_ble_eq_true rfl) (c_Re_exponent (d := d) v0) ?_
  rintro _ _ ⟨rfl, rfl⟩
  show X _ _ 64 [some (.inr (.inl v0)), none, none, none, some (.inl v4), none, some (.inr (.inl v6)), none, some (.inl v8), some (.inr (.inl v9)), none, none] [.inl (f_Re_exponent v0)] _ _
  refine X_run 5 (i1 := 69) (L1 := [some (.inr (.inl v0)), none, none, none, some (.inl v4), none, some (.inr (.inl v6)), none, some (.inl v8), some (.inr (.inl v9)), none, some (.inl (((f_Re_exponent v0) - v4) - v8))]) (st1 := []) rfl ?_
  refine X_mask [true, true, true, true, false, true, true, true, true, true, true, true] ?_
  exact ct_Re_remainder_69 ((Int32.toInt (((f_Re_exponent v0) - v4) - v8)).toNat / 10 + 2) v0 v6 v8 v9 (((f_Re_exponent v0) - v4) - v8) (by exact ⟨by first | exact hI | exact ne0_t (by assumption), by omega, by omega⟩)
def f_Re_remainder (a0 : Int64) (a1 : Int64) : Int64 := (cond (cn1 .ne (b2i (f_Re_isNan a0))) (9221120237041090560 : Int64) (cond (cn1 .ne (b2i (f_Re_isNan a1))) (9221120237041090560 : Int64) (cond (cn1 .eq (lg_cmp (f_Re_size a0) (9218868437227405312 : Int64))) (9221120237041090560 : Int64) (cond (cn1 .ne (lg_cmp (f_Re_size a1) (0 : Int64))) (cond (cn1 .eq (lg_cmp (f_Re_size a1) (9218868437227405312 : Int64))) a0 (cond (cn1 .ge (lg_cmp (f_Re_size a0) (f_Re_size a1))) (cond (cn1 .ne (lg_cmp ((f_Re_mantissa a1) <<< (Int32.toInt64 (f_Re_gap (f_Re_mantissa a1)) &&& 63)) (0 : Int64))) (t_Re_remainder_62 a0 (f_Re_gap (f_Re_mantissa a0)) ((f_Re_mantissa a1) <<< (Int32.toInt64 (f_Re_gap (f_Re_mantissa a1)) &&& 63)) ((f_Re_exponent a1) - (f_Re_gap (f_Re_mantissa a1))) (((f_Re_mantissa a0) <<< (Int32.toInt64 (f_Re_gap (f_Re_mantissa a0)) &&& 63)) - ((f_Re_mantissa a0) <<< (Int32.toInt64 (f_Re_gap (f_Re_mantissa a0)) &&& 63)) / ((f_Re_mantissa a1) <<< (Int32.toInt64 (f_Re_gap (f_Re_mantissa a1)) &&& 63)) * ((f_Re_mantissa a1) <<< (Int32.toInt64 (f_Re_gap (f_Re_mantissa a1)) &&& 63)))) (9221120237041090560 : Int64)) a0)) (9221120237041090560 : Int64)))))
theorem c_Re_remainder {d : Nat} {P : AP} (a0 : Int64) (a1 : Int64) : X m_Re_remainder (d + 2) 0 (entL 12 [.inr (.inl a0), .inr (.inl a1)]) [] P (qL P (f_Re_remainder a0 a1)) := by
  unfold f_Re_remainder
  refine X_run 1 (i1 := 1) (L1 := [some (.inr (.inl a0)), none, some (.inr (.inl a1)), none, none, none, none, none, none, none, none, none]) (st1 := [.inr (.inl a0)]) rfl ?_
  refine X_calls m_Re_isNan (As := [.inr (.inl a0)]) (st := []) ok_Re_isNan rfl rfl rfl (Nat.le_of_ble_eq_true rfl) (Nat.le_of_ble_eq_true rfl) (c_Re_isNan (d := d + 1) a0) ?_
  rintro _ _ ⟨rfl, rfl⟩
  show X _ _ 2 [some (.inr (.inl a0)), none, some (.inr (.inl a1)), none, none, none, none, none, none, none, none, none] [.inl (b2i (f_Re_isNan a0))] _ _
  refine X_run 1 (i1 := cond (cn1 .ne (b2i (f_Re_isNan a0))) 16 3) (L1 := [some (.inr (.inl a0)), none, some (.inr (.inl a1)), none, none, none, none, none, none, none, none, none]) (st1 := []) rfl ?_
  refine X_brq (fun hb2 => ?_) (fun hb2 => ?_)
  · refine X_run 1 (i1 := 17) (L1 := [some (.inr (.inl a0)), none, some (.inr (.inl a1)), none, none, none, none, none, none, none, none, none]) (st1 := [.inr (.inl (9221120237041090560 : Int64))]) rfl ?_
    exact X_lret rfl rfl ⟨rfl, rfl⟩
  · refine X_run 1 (i1 := 4) (L1 := [some (.inr (.inl a0)), none, some (.inr (.inl a1)), none, none, none, none, none, none, none, none, none]) (st1 := [.inr (.inl a1)]) rfl ?_
    refine X_calls m_Re_isNan (As := [.inr (.inl a1)]) (st := []) ok_Re_isNan rfl rfl rfl (Nat.le_of_ble_eq_true rfl) (Nat.le_of_ble_eq_true rfl) (c_Re_isNan (d := d + 1) a1) ?_
    rintro _ _ ⟨rfl, rfl⟩
    show X _ _ 5 [some (.inr (.inl a0)), none, some (.inr (.inl a1)), none, none, none, none, none, none, none, none, none] [.inl (b2i (f_Re_isNan a1))] _ _
    refine X_run 1 (i1 := cond (cn1 .ne (b2i (f_Re_isNan a1))) 16 6) (L1 := [some (.inr (.inl a0)), none, some (.inr (.inl a1)), none, none, none, none, none, none, none, none, none]) (st1 := []) rfl ?_
    refine X_brq (fun hb5 => ?_) (fun hb5 => ?_)
    · refine X_run 1 (i1 := 17) (L1 := [some (.inr (.inl a0)), none, some (.inr (.inl a1)), none, none, none, none, none, none, none, none, none]) (st1 := [.inr (.inl (9221120237041090560 : Int64))]) rfl ?_
      exact X_lret rfl rfl ⟨rfl, rfl⟩
    · refine X_run 1 (i1 := 7) (L1 := [some (.inr (.inl a0)), none, some (.inr (.inl a1)), none, none, none, none, none, none, none, none, none]) (st1 := [.inr (.inl a0)]) rfl ?_
      refine X_calls m_Re_size (As := [.inr (.inl a0)]) (st := []) ok_Re_size rfl rfl rfl (Nat.le_of_ble_eq_true rfl) (Nat.le_of_ble_eq_true rfl) (c_Re_size (d := d + 1) a0) ?_
      rintro _ _ ⟨rfl, rfl⟩
      show X _ _ 8 [some (.inr (.inl a0)), none, some (.inr (.inl a1)), none, none, none, none, none, none, none, none, none] [.inr (.inl (f_Re_size a0))] _ _
      refine X_run 3 (i1 := cond (cn1 .eq (lg_cmp (f_Re_size a0) (9218868437227405312 : Int64))) 16 11) (L1 := [some (.inr (.inl a0)), none, some (.inr (.inl a1)), none, none, none, none, none, none, none, none, none]) (st1 := []) rfl ?_
      refine X_brq (fun hb10 => ?_) (fun hb10 => ?_)
      · refine X_run 1 (i1 := 17) (L1 := [some (.inr (.inl a0)), none, some (.inr (.inl a1)), none, none, none, none, none, none, none, none, none]) (st1 := [.inr (.inl (9221120237041090560 : Int64))]) rfl ?_
        exact X_lret rfl rfl ⟨rfl, rfl⟩
      · refine X_run 1 (i1 := 12) (L1 := [some (.inr (.inl a0)), none, some (.inr (.inl a1)), none, none, none, none, none, none, none, none, none]) (st1 := [.inr (.inl a1)]) rfl ?_
        refine X_calls m_Re_size (As := [.inr (.inl a1)]) (st := []) ok_Re_size rfl rfl rfl (Nat.le_of_ble_eq_true rfl) (Nat.le_of_ble_eq_true rfl) (c_Re_size (d := d + 1) a1) ?_
        rintro _ _ ⟨rfl, rfl⟩
        show X _ _ 13 [some (.inr (.inl a0)), none, some (.inr (.inl a1)), none, none, none, none, none, none, none, none, none] [.inr (.inl (f_Re_size a1))] _ _
        refine X_run 3 (i1 := cond (cn1 .ne (lg_cmp (f_Re_size a1) (0 : Int64))) 18 16) (L1 := [some (.inr (.inl a0)), none, some (.inr (.inl a1)), none, none, none, none, none, none, none, none, none]) (st1 := []) rfl ?_
        refine X_brq (fun hb15 => ?_) (fun hb15 => ?_)
        · refine X_run 1 (i1 := 19) (L1 := [some (.inr (.inl a0)), none, some (.inr (.inl a1)), none, none, none, none, none, none, none, none, none]) (st1 := [.inr (.inl a1)]) rfl ?_
          refine X_calls m_Re_size (As := [.inr (.inl a1)]) (st := []) ok_Re_size rfl rfl rfl (Nat.le_of_ble_eq_true rfl) (Nat.le_of_ble_eq_true rfl) (c_Re_size (d := d + 1) a1) ?_
          rintro _ _ ⟨rfl, rfl⟩
          show X _ _ 20 [some (.inr (.inl a0)), none, some (.inr (.inl a1)), none, none, none, none, none, none, none, none, none] [.inr (.inl (f_Re_size a1))] _ _
          refine X_run 3 (i1 := cond (cn1 .eq (lg_cmp (f_Re_size a1) (9218868437227405312 : Int64))) 29 23) (L1 := [some (.inr (.inl a0)), none, some (.inr (.inl a1)), none, none, none, none, none, none, none, none, none]) (st1 := []) rfl ?_
          refine X_brq (fun hb22 => ?_) (fun hb22 => ?_)
          · refine X_run 1 (i1 := 30) (L1 := [some (.inr (.inl a0)), none, some (.inr (.inl a1)), none, none, none, none, none, none, none, none, none]) (st1 := [.inr (.inl a0)]) rfl ?_
            exact X_lret rfl rfl ⟨rfl, rfl⟩
          · refine X_run 1 (i1 := 24) (L1 := [some (.inr (.inl a0)), none, some (.inr (.inl a1)), none, none, none, none, none, none, none, none, none]) (st1 := [.inr (.inl a0)]) rfl ?_
            refine X_calls m_Re_size (As := [.inr (.inl a0)]) (st := []) ok_Re_size rfl rfl rfl (Nat.le_of_ble_eq_true rfl) (Nat.le_of_ble_eq_true rfl) (c_Re_size (d := d + 1) a0) ?_
            rintro _ _ ⟨rfl, rfl⟩
            show X _ _ 25 [some (.inr (.inl a0)), none, some (.inr (.inl a1)), none, none, none, none, none, none, none, none, none] [.inr (.inl (f_Re_size a0))] _ _
            refine X_run 1 (i1 := 26) (L1 := [some (.inr (.inl a0)), none, some (.inr (.inl a1)), none, none, none, none, none, none, none, none, none]) (st1 := [.inr (.inl a1), .inr (.inl (f_Re_size a0))]) rfl ?_
            refine X_calls m_Re_size (As := [.inr (.inl a1)]) (st := [.inr (.inl (f_Re_size a0))]) ok_Re_size rfl rfl rfl (Nat.le_of_ble_eq_true rfl) (Nat.le_of_ble_eq_true rfl) (c_Re_size (d := d + 1) a1) ?_
            rintro _ _ ⟨rfl, rfl⟩
            show X _ _ 27 [some (.inr (.inl a0)), none, some (.inr (.inl a1)), none, none, none, none, none, none, none, none, none] [.inr (.inl (f_Re_size a1)), .inr (.inl (f_Re_size a0))] _ _
            refine X_run 2 (i1 := cond (cn1 .ge (lg_cmp (f_Re_size a0) (f_Re_size a1))) 31 29) (L1 := [some (.inr (.inl a0)), none, some (.inr (.inl a1)), none, none, none, none, none, none, none, none, none]) (st1 := []) rfl ?_
            refine X_brq (fun hb28 => ?_) (fun hb28 => ?_)
            · refine X_run 1 (i1 := 32) (L1 := [some (.inr (.inl a0)), none, some (.inr (.inl a1)), none, none, none, none, none, none, none, none, none]) (st1 := [.inr (.inl a0)]) rfl ?_
              refine X_calls m_Re_mantissa (As := [.inr (.inl a0)]) (st := []) ok_Re_mantissa rfl rfl rfl (Nat.le_of_ble_eq_true rfl) (Nat.le_of_ble_eq_true rfl) (c_Re_mantissa (d := d + 1) a0) ?_
              rintro _ _ ⟨rfl, rfl⟩
              show X _ _ 33 [some (.inr (.inl a0)), none, some (.inr (.inl a1)), none, none, none, none, none, none, none, none, none] [.inr (.inl (f_Re_mantissa a0))] _ _
              refine X_calls m_Re_gap (As := [.inr (.inl (f_Re_mantissa a0))]) (st := []) ok_Re_gap rfl rfl rfl (Nat.le_of_ble_eq_true rfl) (Nat.le_of_ble_eq_true rfl) (c_Re_gap (d := d + 1) (f_Re_mantissa a0)) ?_
              rintro _ _ ⟨rfl, rfl⟩
              show X _ _ 34 [some (.inr (.inl a0)), none, some (.inr (.inl a1)), none, none, none, none, none, none, none, none, none] [.inl (f_Re_gap (f_Re_mantissa a0))] _ _
              refine X_run 2 (i1 := 36) (L1 := [some (.inr (.inl a0)), none, some (.inr (.inl a1)), none, some (.inl (f_Re_gap (f_Re_mantissa a0))), none, none, none, none, none, none, none]) (st1 := [.inr (.inl a1)]) rfl ?_
              refine X_calls m_Re_mantissa (As := [.inr (.inl a1)]) (st := []) ok_Re_mantissa rfl rfl rfl (Nat.le_of_ble_eq_true rfl) (Nat.le_of_ble_eq_true rfl) (c_Re_mantissa (d := d + 1) a1) ?_
              rintro _ _ ⟨rfl, rfl⟩
              show X _ _ 37 [some (.inr (.inl a0)), none, some (.inr (.inl a1)), none, some (.inl (f_Re_gap (f_Re_mantissa a0))), none, none, none, none, none, none, none] [.inr (.inl (f_Re_mantissa a1))] _ _
              refine X_calls m_Re_gap (As := [.inr (.inl (f_Re_mantissa a1))]) (st := []) ok_Re_gap rfl rfl rfl (Nat.le_of_ble_eq_true rfl) (Nat.le_of_ble_eq_true rfl) (c_Re_gap (d := d + 1) (f_Re_mantissa a1)) ?_
              rintro _ _ ⟨rfl, rfl⟩
              show X _ _ 38 [some (.inr (.inl a0)), none, some (.inr (.inl a1)), none, some (.inl (f_Re_gap (f_Re_mantissa a0))), none, none, none, none, none, none, none] [.inl (f_Re_gap (f_Re_mantissa a1))] _ _
              refine X_run 2 (i1 := 40) (L1 := [some (.inr (.inl a0)), none, some (.inr (.inl a1)), none, some (.inl (f_Re_gap (f_Re_mantissa a0))), some (.inl (f_Re_gap (f_Re_mantissa a1))), none, none, none, none, none, none]) (st1 := [.inr (.inl a1)]) rfl ?_
              refine X_calls m_Re_mantissa (As := [.inr (.inl a1)]) (st := []) ok_Re_mantissa rfl rfl rfl (Nat.le_of_ble_eq_true rfl) (Nat.le_of_ble_eq_true rfl) (c_Re_mantissa (d := d + 1) a1) ?_
              rintro _ _ ⟨rfl, rfl⟩
              show X _ _ 41 [some (.inr (.inl a0)), none, some (.inr (.inl a1)), none, some (.inl (f_Re_gap (f_Re_mantissa a0))), some (.inl (f_Re_gap (f_Re_mantissa a1))), none, none, none, none, none, none] [.inr (.inl (f_Re_mantissa a1))] _ _
              refine X_run 7 (i1 := cond (cn1 .ne (lg_cmp ((f_Re_mantissa a1) <<< (Int32.toInt64 (f_Re_gap (f_Re_mantissa a1)) &&& 63)) (0 : Int64))) 50 48) (L1 := [some (.inr (.inl a0)), none, some (.inr (.inl a1)), none, some (.inl (f_Re_gap (f_Re_mantissa a0))), some (.inl (f_Re_gap (f_Re_mantissa a1))), some (.inr (.inl ((f_Re_mantissa a1) <<< (Int32.toInt64 (f_Re_gap (f_Re_mantissa a1)) &&& 63)))), none, none, none, none, none]) (st1 := []) rfl ?_
              refine X_brq (fun hb47 => ?_) (fun hb47 => ?_)
              · refine X_run 1 (i1 := 51) (L1 := [some (.inr (.inl a0)), none, some (.inr (.inl a1)), none, some (.inl (f_Re_gap (f_Re_mantissa a0))), some (.inl (f_Re_gap (f_Re_mantissa a1))), some (.inr (.inl ((f_Re_mantissa a1) <<< (Int32.toInt64 (f_Re_gap (f_Re_mantissa a1)) &&& 63)))), none, none, none, none, none]) (st1 := [.inr (.inl a1)]) rfl ?_
                refine X_calls m_Re_exponent (As := [.inr (.inl a1)]) (st := []) ok_Re_exponent rfl rfl rfl (Nat.le_of_ble_eq_true rfl) (Nat.le_of_ble_eq_true rfl) (c_Re_exponent (d := d) a1) ?_
                rintro _ _ ⟨rfl, rfl⟩
                show X _ _ 52 [some (.inr (.inl a0)), none, some (.inr (.inl a1)), none, some (.inl (f_Re_gap (f_Re_mantissa a0))), some (.inl (f_Re_gap (f_Re_mantissa a1))), some (.inr (.inl ((f_Re_mantissa a1) <<< (Int32.toInt64 (f_Re_gap (f_Re_mantissa a1)) &&& 63)))), none, none, none, none, none] [.inl (f_Re_exponent a1)] _ _
                refine X_run 4 (i1 := 56) (L1 := [some (.inr (.inl a0)), none, some (.inr (.inl a1)), none, some (.inl (f_Re_gap (f_Re_mantissa a0))), some (.inl (f_Re_gap (f_Re_mantissa a1))), some (.inr (.inl ((f_Re_mantissa a1) <<< (Int32.toInt64 (f_Re_gap (f_Re_mantissa a1)) &&& 63)))), none, some (.inl ((f_Re_exponent a1) - (f_Re_gap (f_Re_mantissa a1)))), none, none, none]) (st1 := [.inr (.inl a0)]) rfl ?_
                refine X_calls m_Re_mantissa (As := [.inr (.inl a0)]) (st := []) ok_Re_mantissa rfl rfl rfl (Nat.le_of_ble_eq_true rfl) (Nat.le_of_ble_eq_true rfl) (c_Re_mantissa (d := d + 1) a0) ?_
                rintro _ _ ⟨rfl, rfl⟩
                show X _ _ 57 [some (.inr (.inl a0)), none, some (.inr (.inl a1)), none, some (.inl (f_Re_gap (f_Re_mantissa a0))), some (.inl (f_Re_gap (f_Re_mantissa a1))), some (.inr (.inl ((f_Re_mantissa a1) <<< (Int32.toInt64 (f_Re_gap (f_Re_mantissa a1)) &&& 63)))), none, some (.inl ((f_Re_exponent a1) - (f_Re_gap (f_Re_mantissa a1)))), none, none, none] [.inr (.inl (f_Re_mantissa a0))] _ _
                refine X_run 3 (i1 := 60) (L1 := [some (.inr (.inl a0)), none, some (.inr (.inl a1)), none, some (.inl (f_Re_gap (f_Re_mantissa a0))), some (.inl (f_Re_gap (f_Re_mantissa a1))), some (.inr (.inl ((f_Re_mantissa a1) <<< (Int32.toInt64 (f_Re_gap (f_Re_mantissa a1)) &&& 63)))), none, some (.inl ((f_Re_exponent a1) - (f_Re_gap (f_Re_mantissa a1)))), none, none, none]) (st1 := [.inr (.inl ((f_Re_mantissa a1) <<< (Int32.toInt64 (f_Re_gap (f_Re_mantissa a1)) &&& 63))), .inr (.inl ((f_Re_mantissa a0) <<< (Int32.toInt64 (f_Re_gap (f_Re_mantissa a0)) &&& 63)))]) rfl ?_
                refine X_lrem rfl (by first | exact hI | exact hI.1 | exact ne0_t (by assumption) | exact ne0_f (by assumption)) ?_
                refine X_run 1 (i1 := 62) (L1 := [some (.inr (.inl a0)), none, some (.inr (.inl a1)), none, some (.inl (f_Re_gap (f_Re_mantissa a0))), some (.inl (f_Re_gap (f_Re_mantissa a1))), some (.inr (.inl ((f_Re_mantissa a1) <<< (Int32.toInt64 (f_Re_gap (f_Re_mantissa a1)) &&& 63)))), none, some (.inl ((f_Re_exponent a1) - (f_Re_gap (f_Re_mantissa a1)))), some (.inr (.inl (((f_Re_mantissa a0) <<< (Int32.toInt64 (f_Re_gap (f_Re_mantissa a0)) &&& 63)) - ((f_Re_mantissa a0) <<< (Int32.toInt64 (f_Re_gap (f_Re_mantissa a0)) &&& 63)) / ((f_Re_mantissa a1) <<< (Int32.toInt64 (f_Re_gap (f_Re_mantissa a1)) &&& 63)) * ((f_Re_mantissa a1) <<< (Int32.toInt64 (f_Re_gap (f_Re_mantissa a1)) &&& 63))))), none, none]) (st1 := []) rfl ?_
                refine X_mask [true, true, false, true, true, false, true, true, true, true, true, true] ?_
                exact ct_Re_remainder_62 a0 (f_Re_gap (f_Re_mantissa a0)) ((f_Re_mantissa a1) <<< (Int32.toInt64 (f_Re_gap (f_Re_mantissa a1)) &&& 63)) ((f_Re_exponent a1) - (f_Re_gap (f_Re_mantissa a1))) (((f_Re_mantissa a0) <<< (Int32.toInt64 (f_Re_gap (f_Re_mantissa a0)) &&& 63)) - ((f_Re_mantissa a0) <<< (Int32.toInt64 (f_Re_gap (f_Re_mantissa a0)) &&& 63)) / ((f_Re_mantissa a1) <<< (Int32.toInt64 (f_Re_gap (f_Re_mantissa a1)) &&& 63)) * ((f_Re_mantissa a1) <<< (Int32.toInt64 (f_Re_gap (f_Re_mantissa a1)) &&& 63))) (by exact ne0_t (by assumption))
              · refine X_run 1 (i1 := 49) (L1 := [some (.inr (.inl a0)), none, some (.inr (.inl a1)), none, some (.inl (f_Re_gap (f_Re_mantissa a0))), some (.inl (f_Re_gap (f_Re_mantissa a1))), some (.inr (.inl ((f_Re_mantissa a1) <<< (Int32.toInt64 (f_Re_gap (f_Re_mantissa a1)) &&& 63)))), none, none, none, none, none]) (st1 := [.inr (.inl (9221120237041090560 : Int64))]) rfl ?_
                exact X_lret rfl rfl ⟨rfl, rfl⟩
            · refine X_run 1 (i1 := 30) (L1 := [some (.inr (.inl a0)), none, some (.inr (.inl a1)), none, none, none, none, none, none, none, none, none]) (st1 := [.inr (.inl a0)]) rfl ?_
              exact X_lret rfl rfl ⟨rfl, rfl⟩
        · refine X_run 1 (i1 := 17) (L1 := [some (.inr (.inl a0)), none, some (.inr (.inl a1)), none, none, none, none, none, none, none, none, none]) (st1 := [.inr (.inl (9221120237041090560 : Int64))]) rfl ?_
          exact X_lret rfl rfl ⟨rfl, rfl⟩
def t_Re_root_107 (v3 : Int32) (w0 : Int32) (w1 : Int64) : Int64 := (f_Re_rounded (w1 ||| (Int32.toInt64 w0)) ((v3 / (2 : Int32)) - (29 : Int32)) (52 : Int32) (1023 : Int32))
theorem ct_Re_root_107 {d : Nat} {P : AP} (v3 : Int32) (w0 : Int32) (w1 : Int64) : X m_Re_root (d + 2) 107 [none, none, none, some (.inl v3), none, none, none, none, none, none, none, none, none] [.inl w0, .inr (.inl w1)] P (qL P (t_Re_root_107 v3 w0 w1)) := by
  unfold t_Re_root_107
  refine X_run 9 (i1 := 116) (L1 := [none, none, none, some (.inl v3), none, none, none, none, none, none, none, none, none]) (st1 := [.inl (1023 : Int32), .inl (52 : Int32), .inl ((v3 / (2 : Int32)) - (29 : Int32)), .inr (.inl (w1 ||| (Int32.toInt64 w0)))]) rfl ?_
  refine X_calls m_Re_rounded (As := [.inr (.inl (w1 ||| (Int32.toInt64 w0))), .inl ((v3 / (2 : Int32)) - (29 : Int32)), .inl (52 : Int32), .inl (1023 : Int32)]) (st := []) ok_Re_rounded rfl rfl rfl (Nat.le_of_ble_eq_true rfl) (Nat.le_of_ble_eq_true rfl) (c_Re_rounded (d := d + 1) (w1 ||| (Int32.toInt64 w0)) ((v3 / (2 : Int32)) - (29 : Int32)) (52 : Int32) (1023 : Int32)) ?_
  rintro _ _ ⟨rfl, rfl⟩
  show X _ _ 117 [none, none, none, some (.inl v3), none, none, none, none, none, none, none, none, none] [.inr (.inl (f_Re_rounded (w1 ||| (Int32.toInt64 w0)) ((v3 / (2 : Int32)) - (29 : Int32)) (52 : Int32) (1023 : Int32)))] _ _
  exact X_lret rfl rfl ⟨rfl, rfl⟩
def t_Re_root_54 : Nat → Int32 → Int64 → Int64 → Int64 → Int32 → Int64
  | 0, _, _, _, _, _ => 0
  | n + 1, v3, v4, v6, v8, v10 => (cond (cn2 .lt v10 (-28 : Int32)) (cond (cn1 .ne (lg_cmp v8 (0 : Int64))) (t_Re_root_107 v3 (1 : Int32) (v6 <<< (Int32.toInt64 (1 : Int32) &&& 63))) (t_Re_root_107 v3 (0 : Int32) (v6 <<< (Int32.toInt64 (1 : Int32) &&& 63)))) (cond (cn1 .lt v10) (cond (cn1 .lt (lg_cmp ((v8 <<< (Int32.toInt64 (2 : Int32) &&& 63)) ||| (0 : Int64)) ((v6 <<< (Int32.toInt64 (2 : Int32) &&& 63)) ||| (1 : Int64)))) (t_Re_root_54 n v3 v4 (v6 <<< (Int32.toInt64 (1 : Int32) &&& 63)) ((v8 <<< (Int32.toInt64 (2 : Int32) &&& 63)) ||| (0 : Int64)) (v10 + Int32.ofInt (-1))) (t_Re_root_54 n v3 v4 ((v6 <<< (Int32.toInt64 (1 : Int32) &&& 63)) ||| (1 : Int64)) (((v8 <<< (Int32.toInt64 (2 : Int32) &&& 63)) ||| (0 : Int64)) - ((v6 <<< (Int32.toInt64 (2 : Int32) &&& 63)) ||| (1 : Int64))) (v10 + Int32.ofInt (-1)))) (cond (cn1 .lt (lg_cmp ((v8 <<< (Int32.toInt64 (2 : Int32) &&& 63)) ||| (((Int64.toUInt64 v4 >>> (Int64.toUInt64 (Int32.toInt64 ((2 : Int32) * v10)) &&& Int64.toUInt64 63)).toInt64) &&& (3 : Int64))) ((v6 <<< (Int32.toInt64 (2 : Int32) &&& 63)) ||| (1 : Int64)))) (t_Re_root_54 n v3 v4 (v6 <<< (Int32.toInt64 (1 : Int32) &&& 63)) ((v8 <<< (Int32.toInt64 (2 : Int32) &&& 63)) ||| (((Int64.toUInt64 v4 >>> (Int64.toUInt64 (Int32.toInt64 ((2 : Int32) * v10)) &&& Int64.toUInt64 63)).toInt64) &&& (3 : Int64))) (v10 + Int32.ofInt (-1))) (t_Re_root_54 n v3 v4 ((v6 <<< (Int32.toInt64 (1 : Int32) &&& 63)) ||| (1 : Int64)) (((v8 <<< (Int32.toInt64 (2 : Int32) &&& 63)) ||| (((Int64.toUInt64 v4 >>> (Int64.toUInt64 (Int32.toInt64 ((2 : Int32) * v10)) &&& Int64.toUInt64 63)).toInt64) &&& (3 : Int64))) - ((v6 <<< (Int32.toInt64 (2 : Int32) &&& 63)) ||| (1 : Int64))) (v10 + Int32.ofInt (-1))))))
theorem ct_Re_root_54 {d : Nat} {P : AP} : ∀ (n : Nat) (v3 : Int32) (v4 : Int64) (v6 : Int64) (v8 : Int64) (v10 : Int32), -29 ≤ v10.toInt ∧ v10.toInt ≤ 26 ∧ v10.toInt + 29 < n → X m_Re_root (d + 2) 54 [none, none, none, some (.inl v3), some (.inr (.inl v4)), none, some (.inr (.inl v6)), none, some (.inr (.inl v8)), none, some (.inl v10), none, none] [] P (qL P (t_Re_root_54 n v3 v4 v6 v8 v10))
  | 0, v3, v4, v6, v8, v10, hI => by exfalso; omega
  | n + 1, v3, v4, v6, v8, v10, hI => by
    have ih := @ct_Re_root_54 d P n
    unfold t_Re_root_54
    refine X_run 3 (i1 := cond (cn2 .lt v10 (-28 : Int32)) 97 57) (L1 := [none, none, none, some (.inl v3), some (.inr (.inl v4)), none, some (.inr (.inl v6)), none, some (.inr (.inl v8)), none, some (.inl v10), none, none]) (st1 := []) rfl ?_
    refine X_brq (fun hb56 => ?_) (fun hb56 => ?_)
    · refine X_run 7 (i1 := cond (cn1 .ne (lg_cmp v8 (0 : Int64))) 106 104) (L1 := [none, none, none, some (.inl v3), some (.inr (.inl v4)), none, some (.inr (.inl v6)), none, some (.inr (.inl v8)), none, some (.inl v10), none, none]) (st1 := [.inr (.inl (v6 <<< (Int32.toInt64 (1 : Int32) &&& 63)))]) rfl ?_
      refine X_brq (fun hb103 => ?_) (fun hb103 => ?_)
      · refine X_run 1 (i1 := 107) (L1 := [none, none, none, some (.inl v3), some (.inr (.inl v4)), none, some (.inr (.inl v6)), none, some (.inr (.inl v8)), none, some (.inl v10), none, none]) (st1 := [.inl (1 : Int32), .inr (.inl (v6 <<< (Int32.toInt64 (1 : Int32) &&& 63)))]) rfl ?_
        refine X_mask [true, true, true, true, false, true, false, true, false, true, false, true, true] ?_
        exact ct_Re_root_107 v3 (1 : Int32) (v6 <<< (Int32.toInt64 (1 : Int32) &&& 63))
      · refine X_run 2 (i1 := 107) (L1 := [none, none, none, some (.inl v3), some (.inr (.inl v4)), none, some (.inr (.inl v6)), none, some (.inr (.inl v8)), none, some (.inl v10), none, none]) (st1 := [.inl (0 : Int32), .inr (.inl (v6 <<< (Int32.toInt64 (1 : Int32) &&& 63)))]) rfl ?_
        refine X_mask [true, true, true, true, false, true, false, true, false, true, false, true, true] ?_
        exact ct_Re_root_107 v3 (0 : Int32) (v6 <<< (Int32.toInt64 (1 : Int32) &&& 63))
    · refine X_run 5 (i1 := cond (cn1 .lt v10) 70 62) (L1 := [none, none, none, some (.inl v3), some (.inr (.inl v4)), none, some (.inr (.inl v6)), none, some (.inr (.inl v8)), none, some (.inl v10), none, none]) (st1 := [.inr (.inl (v8 <<< (Int32.toInt64 (2 : Int32) &&& 63)))]) rfl ?_
      refine X_brq (fun hb61 => ?_) (fun hb61 => ?_)
      · refine X_run 17 (i1 := cond (cn1 .lt (lg_cmp ((v8 <<< (Int32.toInt64 (2 : Int32) &&& 63)) ||| (0 : Int64)) ((v6 <<< (Int32.toInt64 (2 : Int32) &&& 63)) ||| (1 : Int64)))) 95 87) (L1 := [none, none, none, some (.inl v3), some (.inr (.inl v4)), none, some (.inr (.inl (v6 <<< (Int32.toInt64 (1 : Int32) &&& 63)))), none, some (.inr (.inl ((v8 <<< (Int32.toInt64 (2 : Int32) &&& 63)) ||| (0 : Int64)))), none, some (.inl v10), some (.inr (.inl ((v6 <<< (Int32.toInt64 (2 : Int32) &&& 63)) ||| (1 : Int64)))), none]) (st1 := []) rfl ?_
        refine X_brq (fun hb86 => ?_) (fun hb86 => ?_)
        · refine X_run 2 (i1 := 54) (L1 := [none, none, none, some (.inl v3), some (.inr (.inl v4)), none, some (.inr (.inl (v6 <<< (Int32.toInt64 (1 : Int32) &&& 63)))), none, some (.inr (.inl ((v8 <<< (Int32.toInt64 (2 : Int32) &&& 63)) ||| (0 : Int64)))), none, some (.inl (v10 + Int32.ofInt (-1))), some (.inr (.inl ((v6 <<< (Int32.toInt64 (2 : Int32) &&& 63)) ||| (1 : Int64)))), none]) (st1 := []) rfl ?_
          refine X_mask [true, true, true, true, true, true, true, true, true, true, true, false, true] ?_
          exact ih v3 v4 (v6 <<< (Int32.toInt64 (1 : Int32) &&& 63)) ((v8 <<< (Int32.toInt64 (2 : Int32) &&& 63)) ||| (0 : Int64)) (v10 + Int32.ofInt (-1)) (by have h1 := i_lt_f hb56; have h2 : (-28 : Int32).toInt = -28 := (by decide); have h3 := i_add (x := v10) (-1) (by omega) (by omega) (by omega) (by omega); omega)
        · refine X_run 10 (i1 := 54) (L1 := [none, none, none, some (.inl v3), some (.inr (.inl v4)), none, some (.inr (.inl ((v6 <<< (Int32.toInt64 (1 : Int32) &&& 63)) ||| (1 : Int64)))), none, some (.inr (.inl (((v8 <<< (Int32.toInt64 (2 : Int32) &&& 63)) ||| (0 : Int64)) - ((v6 <<< (Int32.toInt64 (2 : Int32) &&& 63)) ||| (1 : Int64))))), none, some (.inl (v10 + Int32.ofInt (-1))), some (.inr (.inl ((v6 <<< (Int32.toInt64 (2 : Int32) &&& 63)) ||| (1 : Int64)))), none]) (st1 := []) rfl ?_
          refine X_mask [true, true, true, true, true, true, true, true, true, true, true, false, true] ?_
          exact ih v3 v4 ((v6 <<< (Int32.toInt64 (1 : Int32) &&& 63)) ||| (1 : Int64)) (((v8 <<< (Int32.toInt64 (2 : Int32) &&& 63)) ||| (0 : Int64)) - ((v6 <<< (Int32.toInt64 (2 : Int32) &&& 63)) ||| (1 : Int64))) (v10 + Int32.ofInt (-1)) (by have h1 := i_lt_f hb56; have h2 : (-28 : Int32).toInt = -28 := (by decide); have h3 := i_add (x := v10) (-1) (by omega) (by omega) (by omega) (by omega); omega)
      · refine X_run 24 (i1 := cond (cn1 .lt (lg_cmp ((v8 <<< (Int32.toInt64 (2 : Int32) &&& 63)) ||| (((Int64.toUInt64 v4 >>> (Int64.toUInt64 (Int32.toInt64 ((2 : Int32) * v10)) &&& Int64.toUInt64 63)).toInt64) &&& (3 : Int64))) ((v6 <<< (Int32.toInt64 (2 : Int32) &&& 63)) ||| (1 : Int64)))) 95 87) (L1 := [none, none, none, some (.inl v3), some (.inr (.inl v4)), none, some (.inr (.inl (v6 <<< (Int32.toInt64 (1 : Int32) &&& 63)))), none, some (.inr (.inl ((v8 <<< (Int32.toInt64 (2 : Int32) &&& 63)) ||| (((Int64.toUInt64 v4 >>> (Int64.toUInt64 (Int32.toInt64 ((2 : Int32) * v10)) &&& Int64.toUInt64 63)).toInt64) &&& (3 : Int64))))), none, some (.inl v10), some (.inr (.inl ((v6 <<< (Int32.toInt64 (2 : Int32) &&& 63)) ||| (1 : Int64)))), none]) (st1 := []) rfl ?_
        refine X_brq (fun hb86 => ?_) (fun hb86 => ?_)
        · refine X_run 2 (i1 := 54) (L1 := [none, none, none, some (.inl v3), some (.inr (.inl v4)), none, some (.inr (.inl (v6 <<< (Int32.toInt64 (1 : Int32) &&& 63)))), none, some (.inr (.inl ((v8 <<< (Int32.toInt64 (2 : Int32) &&& 63)) ||| (((Int64.toUInt64 v4 >>> (Int64.toUInt64 (Int32.toInt64 ((2 : Int32) * v10)) &&& Int64.toUInt64 63)).toInt64) &&& (3 : Int64))))), none, some (.inl (v10 + Int32.ofInt (-1))), some (.inr (.inl ((v6 <<< (Int32.toInt64 (2 : Int32) &&& 63)) ||| (1 : Int64)))), none]) (st1 := []) rfl ?_
          refine X_mask [true, true, true, true, true, true, true, true, true, true, true, false, true] ?_
          exact ih v3 v4 (v6 <<< (Int32.toInt64 (1 : Int32) &&& 63)) ((v8 <<< (Int32.toInt64 (2 : Int32) &&& 63)) ||| (((Int64.toUInt64 v4 >>> (Int64.toUInt64 (Int32.toInt64 ((2 : Int32) * v10)) &&& Int64.toUInt64 63)).toInt64) &&& (3 : Int64))) (v10 + Int32.ofInt (-1)) (by have h1 := i_lt_f hb56; have h2 : (-28 : Int32).toInt = -28 := (by decide); have h3 := i_add (x := v10) (-1) (by omega) (by omega) (by omega) (by omega); omega)
        · refine X_run 10 (i1 := 54) (L1 := [none, none, none, some (.inl v3), some (.inr (.inl v4)), none, some (.inr (.inl ((v6 <<< (Int32.toInt64 (1 : Int32) &&& 63)) ||| (1 : Int64)))), none, some (.inr (.inl (((v8 <<< (Int32.toInt64 (2 : Int32) &&& 63)) ||| (((Int64.toUInt64 v4 >>> (Int64.toUInt64 (Int32.toInt64 ((2 : Int32) * v10)) &&& Int64.toUInt64 63)).toInt64) &&& (3 : Int64))) - ((v6 <<< (Int32.toInt64 (2 : Int32) &&& 63)) ||| (1 : Int64))))), none, some (.inl (v10 + Int32.ofInt (-1))), some (.inr (.inl ((v6 <<< (Int32.toInt64 (2 : Int32) &&& 63)) ||| (1 : Int64)))), none]) (st1 := []) rfl ?_
          refine X_mask [true, true, true, true, true, true, true, true, true, true, true, false, true] ?_
          exact ih v3 v4 ((v6 <<< (Int32.toInt64 (1 : Int32) &&& 63)) ||| (1 : Int64)) (((v8 <<< (Int32.toInt64 (2 : Int32) &&& 63)) ||| (((Int64.toUInt64 v4 >>> (Int64.toUInt64 (Int32.toInt64 ((2 : Int32) * v10)) &&& Int64.toUInt64 63)).toInt64) &&& (3 : Int64))) - ((v6 <<< (Int32.toInt64 (2 : Int32) &&& 63)) ||| (1 : Int64))) (v10 + Int32.ofInt (-1)) (by have h1 := i_lt_f hb56; have h2 : (-28 : Int32).toInt = -28 := (by decide); have h3 := i_add (x := v10) (-1) (by omega) (by omega) (by omega) (by omega); omega)
def t_Re_root_48 (v3 : Int32) (v4 : Int64) : Int64 := (t_Re_root_54 56 v3 v4 (0 : Int64) (0 : Int64) (26 : Int32))
theorem ct_Re_root_48 {d : Nat} {P : AP} (v3 : Int32) (v4 : Int64) : X m_Re_root (d + 2) 48 [none, none, none, some (.inl v3), some (.inr (.inl v4)), none, none, none, none, none, none, none, none] [] P (qL P (t_Re_root_48 v3 v4)) := by
  unfold t_Re_root_48
  refine X_run 6 (i1 := 54) (L1 := [none, none, none, some (.inl v3), some (.inr (.inl v4)), none, some (.inr (.inl (0 : Int64))), none, some (.inr (.inl (0 : Int64))), none, some (.inl (26 : Int32)), none, none]) (st1 := []) rfl ?_
  exact ct_Re_root_54 56 v3 v4 (0 : Int64) (0 : Int64) (26 : Int32) (by exact ⟨by decide, by decide, by decide⟩)
def t_Re_root_14 (v0 : Int64) : Int64 := (cond (cn1 .eq (lg_cmp (f_Re_size v0) (0 : Int64))) v0 (cond (cn1 .ne (lg_cmp v0 (9218868437227405312 : Int64))) (cond (cn1 .eq (((f_Re_exponent v0) - (f_Re_gap (f_Re_mantissa v0))) &&& (1 : Int32))) (t_Re_root_48 ((f_Re_exponent v0) - (f_Re_gap (f_Re_mantissa v0))) ((f_Re_mantissa v0) <<< (Int32.toInt64 (f_Re_gap (f_Re_mantissa v0)) &&& 63))) (t_Re_root_48 (((f_Re_exponent v0) - (f_Re_gap (f_Re_mantissa v0))) + Int32.ofInt (-1)) (((f_Re_mantissa v0) <<< (Int32.toInt64 (f_Re_gap (f_Re_mantissa v0)) &&& 63)) <<< (Int32.toInt64 (1 : Int32) &&& 63)))) v0))
theorem ct_Re_root_14 {d : Nat} {P : AP} (v0 : Int64) : X m_Re_root (d + 2) 14 [some (.inr (.inl v0)), none, none, none, none, none, none, none, none, none, none, none, none] [] P (qL P (t_Re_root_14 v0)) := by
  unfold t_Re_root_14
  refine X_run 1 (i1 := 15) (L1 := [some (.inr (.inl v0)), none, none, none, none, none, none, none, none, none, none, none, none]) (st1 := [.inr (.inl v0)]) rfl ?_
  refine X_calls m_Re_size (As := [.inr (.inl v0)]) (st := []) ok_Re_size rfl rfl rfl (Nat.le_of_ble_eq_true rfl) (Nat.le_of_ble_eq_true rfl) (c_Re_size (d := d + 1) v0) ?_
  rintro _ _ ⟨rfl, rfl⟩
  show X _ _ 16 [some (.inr (.inl v0)), none, none, none, none, none, none, none, none, none, none, none, none] [.inr (.inl (f_Re_size v0))] _ _
  refine X_run 3 (i1 := cond (cn1 .eq (lg_cmp (f_Re_size v0) (0 : Int64))) 23 19) (L1 := [some (.inr (.inl v0)), none, none, none, none, none, none, none, none, none, none, none, none]) (st1 := []) rfl ?_
  refine X_brq (fun hb18 => ?_) (fun hb18 => ?_)
  · refine X_run 1 (i1 := 24) (L1 := [some (.inr (.inl v0)), none, none, none, none, none, none, none, none, none, none, none, none]) (st1 := [.inr (.inl v0)]) rfl ?_
    exact X_lret rfl rfl ⟨rfl, rfl⟩
  · refine X_run 4 (i1 := cond (cn1 .ne (lg_cmp v0 (9218868437227405312 : Int64))) 25 23) (L1 := [some (.inr (.inl v0)), none, none, none, none, none, none, none, none, none, none, none, none]) (st1 := []) rfl ?_
    refine X_brq (fun hb22 => ?_) (fun hb22 => ?_)
    · refine X_run 1 (i1 := 26) (L1 := [some (.inr (.inl v0)), none, none, none, none, none, none, none, none, none, none, none, none]) (st1 := [.inr (.inl v0)]) rfl ?_
      refine X_calls m_Re_mantissa (As := [.inr (.inl v0)]) (st := []) ok_Re_mantissa rfl rfl rfl (Nat.le_of_ble_eq_true rfl) (Nat.le_of_ble_eq_true rfl) (c_Re_mantissa (d := d + 1) v0) ?_
      rintro _ _ ⟨rfl, rfl⟩
      show X _ _ 27 [some (.inr (.inl v0)), none, none, none, none, none, none, none, none, none, none, none, none] [.inr (.inl (f_Re_mantissa v0))] _ _
      refine X_calls m_Re_gap (As := [.inr (.inl (f_Re_mantissa v0))]) (st := []) ok_Re_gap rfl rfl rfl (Nat.le_of_ble_eq_true rfl) (Nat.le_of_ble_eq_true rfl) (c_Re_gap (d := d + 1) (f_Re_mantissa v0)) ?_
      rintro _ _ ⟨rfl, rfl⟩
      show X _ _ 28 [some (.inr (.inl v0)), none, none, none, none, none, none, none, none, none, none, none, none] [.inl (f_Re_gap (f_Re_mantissa v0))] _ _
      refine X_run 2 (i1 := 30) (L1 := [some (.inr (.inl v0)), none, some (.inl (f_Re_gap (f_Re_mantissa v0))), none, none, none, none, none, none, none, none, none, none]) (st1 := [.inr (.inl v0)]) rfl ?_
      refine X_calls m_Re_exponent (As := [.inr (.inl v0)]) (st := []) ok_Re_exponent rfl rfl rfl (Nat.le_of_ble_eq_true rfl) (Nat.le_of_ble_eq_true rfl) (c_Re_exponent (d := d) v0) ?_
      rintro _ _ ⟨rfl, rfl⟩
      show X _ _ 31 [some (.inr (.inl v0)), none, some (.inl (f_Re_gap (f_Re_mantissa v0))), none, none, none, none, none, none, none, none, none, none] [.inl (f_Re_exponent v0)] _ _
      refine X_run 4 (i1 := 35) (L1 := [some (.inr (.inl v0)), none, some (.inl (f_Re_gap (f_Re_mantissa v0))), some (.inl ((f_Re_exponent v0) - (f_Re_gap (f_Re_mantissa v0)))), none, none, none, none, none, none, none, none, none]) (st1 := [.inr (.inl v0)]) rfl ?_
      refine X_calls m_Re_mantissa (As := [.inr (.inl v0)]) (st := []) ok_Re_mantissa rfl rfl rfl (Nat.le_of_ble_eq_true rfl) (Nat.le_of_ble_eq_true rfl) (c_Re_mantissa (d := d + 1) v0) ?_
      rintro _ _ ⟨rfl, rfl⟩
      show X _ _ 36 [some (.inr (.inl v0)), none, some (.inl (f_Re_gap (f_Re_mantissa v0))), some (.inl ((f_Re_exponent v0) - (f_Re_gap (f_Re_mantissa v0)))), none, none, none, none, none, none, none, none, none] [.inr (.inl (f_Re_mantissa v0))] _ _
      refine X_run 7 (i1 := cond (cn1 .eq (((f_Re_exponent v0) - (f_Re_gap (f_Re_mantissa v0))) &&& (1 : Int32))) 48 43) (L1 := [some (.inr (.inl v0)), none, some (.inl (f_Re_gap (f_Re_mantissa v0))), some (.inl ((f_Re_exponent v0) - (f_Re_gap (f_Re_mantissa v0)))), some (.inr (.inl ((f_Re_mantissa v0) <<< (Int32.toInt64 (f_Re_gap (f_Re_mantissa v0)) &&& 63)))), none, none, none, none, none, none, none, none]) (st1 := []) rfl ?_
      refine X_brq (fun hb42 => ?_) (fun hb42 => ?_)
      · refine X_mask [false, true, false, true, true, true, true, true, true, true, true, true, true] ?_
        exact ct_Re_root_48 ((f_Re_exponent v0) - (f_Re_gap (f_Re_mantissa v0))) ((f_Re_mantissa v0) <<< (Int32.toInt64 (f_Re_gap (f_Re_mantissa v0)) &&& 63))
      · refine X_run 5 (i1 := 48) (L1 := [some (.inr (.inl v0)), none, some (.inl (f_Re_gap (f_Re_mantissa v0))), some (.inl (((f_Re_exponent v0) - (f_Re_gap (f_Re_mantissa v0))) + Int32.ofInt (-1))), some (.inr (.inl (((f_Re_mantissa v0) <<< (Int32.toInt64 (f_Re_gap (f_Re_mantissa v0)) &&& 63)) <<< (Int32.toInt64 (1 : Int32) &&& 63)))), none, none, none, none, none, none, none, none]) (st1 := []) rfl ?_
        refine X_mask [false, true, false, true, true, true, true, true, true, true, true, true, true] ?_
        exact ct_Re_root_48 (((f_Re_exponent v0) - (f_Re_gap (f_Re_mantissa v0))) + Int32.ofInt (-1)) (((f_Re_mantissa v0) <<< (Int32.toInt64 (f_Re_gap (f_Re_mantissa v0)) &&& 63)) <<< (Int32.toInt64 (1 : Int32) &&& 63))
    · refine X_run 1 (i1 := 24) (L1 := [some (.inr (.inl v0)), none, none, none, none, none, none, none, none, none, none, none, none]) (st1 := [.inr (.inl v0)]) rfl ?_
      exact X_lret rfl rfl ⟨rfl, rfl⟩
def f_Re_root (a0 : Int64) : Int64 := (cond (cn1 .ne (b2i (f_Re_isNan a0))) (9221120237041090560 : Int64) (cond (cn1 .ge (lg_cmp a0 (0 : Int64))) (t_Re_root_14 a0) (cond (cn1 .eq (lg_cmp (f_Re_size a0) (0 : Int64))) (t_Re_root_14 a0) (9221120237041090560 : Int64))))
theorem c_Re_root {d : Nat} {P : AP} (a0 : Int64) : X m_Re_root (d + 2) 0 (entL 13 [.inr (.inl a0)]) [] P (qL P (f_Re_root a0)) := by
  unfold f_Re_root
  refine X_run 1 (i1 := 1) (L1 := [some (.inr (.inl a0)), none, none, none, none, none, none, none, none, none, none, none, none]) (st1 := [.inr (.inl a0)]) rfl ?_
  refine X_calls m_Re_isNan (As := [.inr (.inl a0)]) (st := []) ok_Re_isNan rfl rfl rfl (Nat.le_of_ble_eq_true rfl) (Nat.le_of_ble_eq_true rfl) (c_Re_isNan (d := d + 1) a0) ?_
  rintro _ _ ⟨rfl, rfl⟩
  show X _ _ 2 [some (.inr (.inl a0)), none, none, none, none, none, none, none, none, none, none, none, none] [.inl (b2i (f_Re_isNan a0))] _ _
  refine X_run 1 (i1 := cond (cn1 .ne (b2i (f_Re_isNan a0))) 12 3) (L1 := [some (.inr (.inl a0)), none, none, none, none, none, none, none, none, none, none, none, none]) (st1 := []) rfl ?_
  refine X_brq (fun hb2 => ?_) (fun hb2 => ?_)
  · refine X_run 1 (i1 := 13) (L1 := [some (.inr (.inl a0)), none, none, none, none, none, none, none, none, none, none, none, none]) (st1 := [.inr (.inl (9221120237041090560 : Int64))]) rfl ?_
    exact X_lret rfl rfl ⟨rfl, rfl⟩
  · refine X_run 4 (i1 := cond (cn1 .ge (lg_cmp a0 (0 : Int64))) 14 7) (L1 := [some (.inr (.inl a0)), none, none, none, none, none, none, none, none, none, none, none, none]) (st1 := []) rfl ?_
    refine X_brq (fun hb6 => ?_) (fun hb6 => ?_)
    · exact ct_Re_root_14 a0
    · refine X_run 1 (i1 := 8) (L1 := [some (.inr (.inl a0)), none, none, none, none, none, none, none, none, none, none, none, none]) (st1 := [.inr (.inl a0)]) rfl ?_
      refine X_calls m_Re_size (As := [.inr (.inl a0)]) (st := []) ok_Re_size rfl rfl rfl (Nat.le_of_ble_eq_true rfl) (Nat.le_of_ble_eq_true rfl) (c_Re_size (d := d + 1) a0) ?_
      rintro _ _ ⟨rfl, rfl⟩
      show X _ _ 9 [some (.inr (.inl a0)), none, none, none, none, none, none, none, none, none, none, none, none] [.inr (.inl (f_Re_size a0))] _ _
      refine X_run 3 (i1 := cond (cn1 .eq (lg_cmp (f_Re_size a0) (0 : Int64))) 14 12) (L1 := [some (.inr (.inl a0)), none, none, none, none, none, none, none, none, none, none, none, none]) (st1 := []) rfl ?_
      refine X_brq (fun hb11 => ?_) (fun hb11 => ?_)
      · exact ct_Re_root_14 a0
      · refine X_run 1 (i1 := 13) (L1 := [some (.inr (.inl a0)), none, none, none, none, none, none, none, none, none, none, none, none]) (st1 := [.inr (.inl (9221120237041090560 : Int64))]) rfl ?_
        exact X_lret rfl rfl ⟨rfl, rfl⟩
def f_Re_paired (a0 : Int32) (a1 : Int64) (a2 : Int64) : Int64 := (if a0 = (0 : Int32) then (f_Re_sum a1 a2) else (if a0 = (1 : Int32) then (f_Re_sum a1 (f_Re_turned a2)) else (if a0 = (2 : Int32) then (f_Re_product a1 a2) else (if a0 = (3 : Int32) then (f_Re_quotient a1 a2) else (if a0 = (4 : Int32) then (f_Re_remainder a1 a2) else (if a0 = (5 : Int32) then (f_Re_greater a1 a2) else (if a0 = (6 : Int32) then (f_Re_lesser a1 a2) else (f_Re_withSign a1 a2))))))))
theorem c_Re_paired {d : Nat} {P : AP} (a0 : Int32) (a1 : Int64) (a2 : Int64) : X m_Re_paired (d + 3) 0 (entL 5 [.inl a0, .inr (.inl a1), .inr (.inl a2)]) [] P (qL P (f_Re_paired a0 a1 a2)) := by
  unfold f_Re_paired
  refine X_run 1 (i1 := 1) (L1 := [some (.inl a0), some (.inr (.inl a1)), none, some (.inr (.inl a2)), none]) (st1 := [.inl a0]) rfl ?_
  refine X_itq (fun h => ?_) (fun h1_0 => ?_)
  · refine X_tsk rfl h rfl ?_
    refine X_run 2 (i1 := 4) (L1 := [some (.inl a0), some (.inr (.inl a1)), none, some (.inr (.inl a2)), none]) (st1 := [.inr (.inl a2), .inr (.inl a1)]) rfl ?_
    refine X_calls m_Re_sum (As := [.inr (.inl a1), .inr (.inl a2)]) (st := []) ok_Re_sum rfl rfl rfl (Nat.le_of_ble_eq_true rfl) (Nat.le_of_ble_eq_true rfl) (c_Re_sum (d := d) a1 a2) ?_
    rintro _ _ ⟨rfl, rfl⟩
    show X _ _ 5 [some (.inl a0), some (.inr (.inl a1)), none, some (.inr (.inl a2)), none] [.inr (.inl (f_Re_sum a1 a2))] _ _
    exact X_lret rfl rfl ⟨rfl, rfl⟩
  refine X_itq (fun h => ?_) (fun h1_1 => ?_)
  · refine X_tsk rfl h rfl ?_
    refine X_run 2 (i1 := 8) (L1 := [some (.inl a0), some (.inr (.inl a1)), none, some (.inr (.inl a2)), none]) (st1 := [.inr (.inl a2), .inr (.inl a1)]) rfl ?_
    refine X_calls m_Re_turned (As := [.inr (.inl a2)]) (st := [.inr (.inl a1)]) ok_Re_turned rfl rfl rfl (Nat.le_of_ble_eq_true rfl) (Nat.le_of_ble_eq_true rfl) (c_Re_turned (d := d + 1) a2) ?_
    rintro _ _ ⟨rfl, rfl⟩
    show X _ _ 9 [some (.inl a0), some (.inr (.inl a1)), none, some (.inr (.inl a2)), none] [.inr (.inl (f_Re_turned a2)), .inr (.inl a1)] _ _
    refine X_calls m_Re_sum (As := [.inr (.inl a1), .inr (.inl (f_Re_turned a2))]) (st := []) ok_Re_sum rfl rfl rfl (Nat.le_of_ble_eq_true rfl) (Nat.le_of_ble_eq_true rfl) (c_Re_sum (d := d) a1 (f_Re_turned a2)) ?_
    rintro _ _ ⟨rfl, rfl⟩
    show X _ _ 10 [some (.inl a0), some (.inr (.inl a1)), none, some (.inr (.inl a2)), none] [.inr (.inl (f_Re_sum a1 (f_Re_turned a2)))] _ _
    exact X_lret rfl rfl ⟨rfl, rfl⟩
  refine X_itq (fun h => ?_) (fun h1_2 => ?_)
  · refine X_tsk rfl h rfl ?_
    refine X_run 2 (i1 := 13) (L1 := [some (.inl a0), some (.inr (.inl a1)), none, some (.inr (.inl a2)), none]) (st1 := [.inr (.inl a2), .inr (.inl a1)]) rfl ?_
    refine X_calls m_Re_product (As := [.inr (.inl a1), .inr (.inl a2)]) (st := []) ok_Re_product rfl rfl rfl (Nat.le_of_ble_eq_true rfl) (Nat.le_of_ble_eq_true rfl) (c_Re_product (d := d) a1 a2) ?_
    rintro _ _ ⟨rfl, rfl⟩
    show X _ _ 14 [some (.inl a0), some (.inr (.inl a1)), none, some (.inr (.inl a2)), none] [.inr (.inl (f_Re_product a1 a2))] _ _
    exact X_lret rfl rfl ⟨rfl, rfl⟩
  refine X_itq (fun h => ?_) (fun h1_3 => ?_)
  · refine X_tsk rfl h rfl ?_
    refine X_run 2 (i1 := 17) (L1 := [some (.inl a0), some (.inr (.inl a1)), none, some (.inr (.inl a2)), none]) (st1 := [.inr (.inl a2), .inr (.inl a1)]) rfl ?_
    refine X_calls m_Re_quotient (As := [.inr (.inl a1), .inr (.inl a2)]) (st := []) ok_Re_quotient rfl rfl rfl (Nat.le_of_ble_eq_true rfl) (Nat.le_of_ble_eq_true rfl) (c_Re_quotient (d := d) a1 a2) ?_
    rintro _ _ ⟨rfl, rfl⟩
    show X _ _ 18 [some (.inl a0), some (.inr (.inl a1)), none, some (.inr (.inl a2)), none] [.inr (.inl (f_Re_quotient a1 a2))] _ _
    exact X_lret rfl rfl ⟨rfl, rfl⟩
  refine X_itq (fun h => ?_) (fun h1_4 => ?_)
  · refine X_tsk rfl h rfl ?_
    refine X_run 2 (i1 := 21) (L1 := [some (.inl a0), some (.inr (.inl a1)), none, some (.inr (.inl a2)), none]) (st1 := [.inr (.inl a2), .inr (.inl a1)]) rfl ?_
    refine X_calls m_Re_remainder (As := [.inr (.inl a1), .inr (.inl a2)]) (st := []) ok_Re_remainder rfl rfl rfl (Nat.le_of_ble_eq_true rfl) (Nat.le_of_ble_eq_true rfl) (c_Re_remainder (d := d) a1 a2) ?_
    rintro _ _ ⟨rfl, rfl⟩
    show X _ _ 22 [some (.inl a0), some (.inr (.inl a1)), none, some (.inr (.inl a2)), none] [.inr (.inl (f_Re_remainder a1 a2))] _ _
    exact X_lret rfl rfl ⟨rfl, rfl⟩
  refine X_itq (fun h => ?_) (fun h1_5 => ?_)
  · refine X_tsk rfl h rfl ?_
    refine X_run 2 (i1 := 25) (L1 := [some (.inl a0), some (.inr (.inl a1)), none, some (.inr (.inl a2)), none]) (st1 := [.inr (.inl a2), .inr (.inl a1)]) rfl ?_
    refine X_calls m_Re_greater (As := [.inr (.inl a1), .inr (.inl a2)]) (st := []) ok_Re_greater rfl rfl rfl (Nat.le_of_ble_eq_true rfl) (Nat.le_of_ble_eq_true rfl) (c_Re_greater (d := d + 1) a1 a2) ?_
    rintro _ _ ⟨rfl, rfl⟩
    show X _ _ 26 [some (.inl a0), some (.inr (.inl a1)), none, some (.inr (.inl a2)), none] [.inr (.inl (f_Re_greater a1 a2))] _ _
    exact X_lret rfl rfl ⟨rfl, rfl⟩
  refine X_itq (fun h => ?_) (fun h1_6 => ?_)
  · refine X_tsk rfl h rfl ?_
    refine X_run 2 (i1 := 29) (L1 := [some (.inl a0), some (.inr (.inl a1)), none, some (.inr (.inl a2)), none]) (st1 := [.inr (.inl a2), .inr (.inl a1)]) rfl ?_
    refine X_calls m_Re_lesser (As := [.inr (.inl a1), .inr (.inl a2)]) (st := []) ok_Re_lesser rfl rfl rfl (Nat.le_of_ble_eq_true rfl) (Nat.le_of_ble_eq_true rfl) (c_Re_lesser (d := d) a1 a2) ?_
    rintro _ _ ⟨rfl, rfl⟩
    show X _ _ 30 [some (.inl a0), some (.inr (.inl a1)), none, some (.inr (.inl a2)), none] [.inr (.inl (f_Re_lesser a1 a2))] _ _
    exact X_lret rfl rfl ⟨rfl, rfl⟩
  refine X_tsd rfl ((sw_out (0) 7 (by decide) (by decide) (fun j hj => by
    match j, hj with
    | 0, _ => exact h1_0
    | 1, _ => exact h1_1
    | 2, _ => exact h1_2
    | 3, _ => exact h1_3
    | 4, _ => exact h1_4
    | 5, _ => exact h1_5
    | 6, _ => exact h1_6)).imp id (fun h => by omega)) ?_
  refine X_run 2 (i1 := 33) (L1 := [some (.inl a0), some (.inr (.inl a1)), none, some (.inr (.inl a2)), none]) (st1 := [.inr (.inl a2), .inr (.inl a1)]) rfl ?_
  refine X_calls m_Re_withSign (As := [.inr (.inl a1), .inr (.inl a2)]) (st := []) ok_Re_withSign rfl rfl rfl (Nat.le_of_ble_eq_true rfl) (Nat.le_of_ble_eq_true rfl) (c_Re_withSign (d := d + 1) a1 a2) ?_
  rintro _ _ ⟨rfl, rfl⟩
  show X _ _ 34 [some (.inl a0), some (.inr (.inl a1)), none, some (.inr (.inl a2)), none] [.inr (.inl (f_Re_withSign a1 a2))] _ _
  exact X_lret rfl rfl ⟨rfl, rfl⟩
def f_Re_changed (a0 : Int32) (a1 : Int64) : Int64 := (if a0 = (0 : Int32) then (f_Re_plain (f_Re_size a1)) else (if a0 = (1 : Int32) then (f_Re_whole a0 a1) else (if a0 = (2 : Int32) then (f_Re_whole a0 a1) else (if a0 = (3 : Int32) then (f_Re_whole a0 a1) else (if a0 = (4 : Int32) then (f_Re_signOf a1) else (if a0 = (5 : Int32) then (f_Re_root a1) else (if a0 = (6 : Int32) then (f_Re_step a1) else (if a0 = (7 : Int32) then (f_Re_above a1) else (if a0 = (8 : Int32) then (f_Re_turned a1) else (f_Re_ofFloat (f_Re_toFloat a1)))))))))))
theorem c_Re_changed {d : Nat} {P : AP} (a0 : Int32) (a1 : Int64) : X m_Re_changed (d + 3) 0 (entL 3 [.inl a0, .inr (.inl a1)]) [] P (qL P (f_Re_changed a0 a1)) := by
  unfold f_Re_changed
  refine X_run 1 (i1 := 1) (L1 := [some (.inl a0), some (.inr (.inl a1)), none]) (st1 := [.inl a0]) rfl ?_
  refine X_itq (fun h => ?_) (fun h1_0 => ?_)
  · refine X_tsk rfl h rfl ?_
    refine X_run 1 (i1 := 3) (L1 := [some (.inl a0), some (.inr (.inl a1)), none]) (st1 := [.inr (.inl a1)]) rfl ?_
    refine X_calls m_Re_size (As := [.inr (.inl a1)]) (st := []) ok_Re_size rfl rfl rfl (Nat.le_of_ble_eq_true rfl) (Nat.le_of_ble_eq_true rfl) (c_Re_size (d := d + 2) a1) ?_
    rintro _ _ ⟨rfl, rfl⟩
    show X _ _ 4 [some (.inl a0), some (.inr (.inl a1)), none] [.inr (.inl (f_Re_size a1))] _ _
    refine X_calls m_Re_plain (As := [.inr (.inl (f_Re_size a1))]) (st := []) ok_Re_plain rfl rfl rfl (Nat.le_of_ble_eq_true rfl) (Nat.le_of_ble_eq_true rfl) (c_Re_plain (d := d + 1) (f_Re_size a1)) ?_
    rintro _ _ ⟨rfl, rfl⟩
    show X _ _ 5 [some (.inl a0), some (.inr (.inl a1)), none] [.inr (.inl (f_Re_plain (f_Re_size a1)))] _ _
    exact X_lret rfl rfl ⟨rfl, rfl⟩
  refine X_itq (fun h => ?_) (fun h1_1 => ?_)
  · refine X_tsk rfl h rfl ?_
    refine X_run 2 (i1 := 8) (L1 := [some (.inl a0), some (.inr (.inl a1)), none]) (st1 := [.inr (.inl a1), .inl a0]) rfl ?_
    refine X_calls m_Re_whole (As := [.inl a0, .inr (.inl a1)]) (st := []) ok_Re_whole rfl rfl rfl (Nat.le_of_ble_eq_true rfl) (Nat.le_of_ble_eq_true rfl) (c_Re_whole (d := d) a0 a1) ?_
    rintro _ _ ⟨rfl, rfl⟩
    show X _ _ 9 [some (.inl a0), some (.inr (.inl a1)), none] [.inr (.inl (f_Re_whole a0 a1))] _ _
    exact X_lret rfl rfl ⟨rfl, rfl⟩
  refine X_itq (fun h => ?_) (fun h1_2 => ?_)
  · refine X_tsk rfl h rfl ?_
    refine X_run 2 (i1 := 8) (L1 := [some (.inl a0), some (.inr (.inl a1)), none]) (st1 := [.inr (.inl a1), .inl a0]) rfl ?_
    refine X_calls m_Re_whole (As := [.inl a0, .inr (.inl a1)]) (st := []) ok_Re_whole rfl rfl rfl (Nat.le_of_ble_eq_true rfl) (Nat.le_of_ble_eq_true rfl) (c_Re_whole (d := d) a0 a1) ?_
    rintro _ _ ⟨rfl, rfl⟩
    show X _ _ 9 [some (.inl a0), some (.inr (.inl a1)), none] [.inr (.inl (f_Re_whole a0 a1))] _ _
    exact X_lret rfl rfl ⟨rfl, rfl⟩
  refine X_itq (fun h => ?_) (fun h1_3 => ?_)
  · refine X_tsk rfl h rfl ?_
    refine X_run 2 (i1 := 8) (L1 := [some (.inl a0), some (.inr (.inl a1)), none]) (st1 := [.inr (.inl a1), .inl a0]) rfl ?_
    refine X_calls m_Re_whole (As := [.inl a0, .inr (.inl a1)]) (st := []) ok_Re_whole rfl rfl rfl (Nat.le_of_ble_eq_true rfl) (Nat.le_of_ble_eq_true rfl) (c_Re_whole (d := d) a0 a1) ?_
    rintro _ _ ⟨rfl, rfl⟩
    show X _ _ 9 [some (.inl a0), some (.inr (.inl a1)), none] [.inr (.inl (f_Re_whole a0 a1))] _ _
    exact X_lret rfl rfl ⟨rfl, rfl⟩
  refine X_itq (fun h => ?_) (fun h1_4 => ?_)
  · refine X_tsk rfl h rfl ?_
    refine X_run 1 (i1 := 11) (L1 := [some (.inl a0), some (.inr (.inl a1)), none]) (st1 := [.inr (.inl a1)]) rfl ?_
    refine X_calls m_Re_signOf (As := [.inr (.inl a1)]) (st := []) ok_Re_signOf rfl rfl rfl (Nat.le_of_ble_eq_true rfl) (Nat.le_of_ble_eq_true rfl) (c_Re_signOf (d := d + 1) a1) ?_
    rintro _ _ ⟨rfl, rfl⟩
    show X _ _ 12 [some (.inl a0), some (.inr (.inl a1)), none] [.inr (.inl (f_Re_signOf a1))] _ _
    exact X_lret rfl rfl ⟨rfl, rfl⟩
  refine X_itq (fun h => ?_) (fun h1_5 => ?_)
  · refine X_tsk rfl h rfl ?_
    refine X_run 1 (i1 := 14) (L1 := [some (.inl a0), some (.inr (.inl a1)), none]) (st1 := [.inr (.inl a1)]) rfl ?_
    refine X_calls m_Re_root (As := [.inr (.inl a1)]) (st := []) ok_Re_root rfl rfl rfl (Nat.le_of_ble_eq_true rfl) (Nat.le_of_ble_eq_true rfl) (c_Re_root (d := d) a1) ?_
    rintro _ _ ⟨rfl, rfl⟩
    show X _ _ 15 [some (.inl a0), some (.inr (.inl a1)), none] [.inr (.inl (f_Re_root a1))] _ _
    exact X_lret rfl rfl ⟨rfl, rfl⟩
  refine X_itq (fun h => ?_) (fun h1_6 => ?_)
  · refine X_tsk rfl h rfl ?_
    refine X_run 1 (i1 := 17) (L1 := [some (.inl a0), some (.inr (.inl a1)), none]) (st1 := [.inr (.inl a1)]) rfl ?_
    refine X_calls m_Re_step (As := [.inr (.inl a1)]) (st := []) ok_Re_step rfl rfl rfl (Nat.le_of_ble_eq_true rfl) (Nat.le_of_ble_eq_true rfl) (c_Re_step (d := d) a1) ?_
    rintro _ _ ⟨rfl, rfl⟩
    show X _ _ 18 [some (.inl a0), some (.inr (.inl a1)), none] [.inr (.inl (f_Re_step a1))] _ _
    exact X_lret rfl rfl ⟨rfl, rfl⟩
  refine X_itq (fun h => ?_) (fun h1_7 => ?_)
  · refine X_tsk rfl h rfl ?_
    refine X_run 1 (i1 := 20) (L1 := [some (.inl a0), some (.inr (.inl a1)), none]) (st1 := [.inr (.inl a1)]) rfl ?_
    refine X_calls m_Re_above (As := [.inr (.inl a1)]) (st := []) ok_Re_above rfl rfl rfl (Nat.le_of_ble_eq_true rfl) (Nat.le_of_ble_eq_true rfl) (c_Re_above (d := d) a1) ?_
    rintro _ _ ⟨rfl, rfl⟩
    show X _ _ 21 [some (.inl a0), some (.inr (.inl a1)), none] [.inr (.inl (f_Re_above a1))] _ _
    exact X_lret rfl rfl ⟨rfl, rfl⟩
  refine X_itq (fun h => ?_) (fun h1_8 => ?_)
  · refine X_tsk rfl h rfl ?_
    refine X_run 1 (i1 := 23) (L1 := [some (.inl a0), some (.inr (.inl a1)), none]) (st1 := [.inr (.inl a1)]) rfl ?_
    refine X_calls m_Re_turned (As := [.inr (.inl a1)]) (st := []) ok_Re_turned rfl rfl rfl (Nat.le_of_ble_eq_true rfl) (Nat.le_of_ble_eq_true rfl) (c_Re_turned (d := d + 1) a1) ?_
    rintro _ _ ⟨rfl, rfl⟩
    show X _ _ 24 [some (.inl a0), some (.inr (.inl a1)), none] [.inr (.inl (f_Re_turned a1))] _ _
    exact X_lret rfl rfl ⟨rfl, rfl⟩
  refine X_tsd rfl ((sw_out (0) 9 (by decide) (by decide) (fun j hj => by
    match j, hj with
    | 0, _ => exact h1_0
    | 1, _ => exact h1_1
    | 2, _ => exact h1_2
    | 3, _ => exact h1_3
    | 4, _ => exact h1_4
    | 5, _ => exact h1_5
    | 6, _ => exact h1_6
    | 7, _ => exact h1_7
    | 8, _ => exact h1_8)).imp id (fun h => by omega)) ?_
  refine X_run 1 (i1 := 26) (L1 := [some (.inl a0), some (.inr (.inl a1)), none]) (st1 := [.inr (.inl a1)]) rfl ?_
  refine X_calls m_Re_toFloat (As := [.inr (.inl a1)]) (st := []) ok_Re_toFloat rfl rfl rfl (Nat.le_of_ble_eq_true rfl) (Nat.le_of_ble_eq_true rfl) (c_Re_toFloat (d := d) a1) ?_
  rintro _ _ ⟨rfl, rfl⟩
  show X _ _ 27 [some (.inl a0), some (.inr (.inl a1)), none] [.inl (f_Re_toFloat a1)] _ _
  refine X_calls m_Re_ofFloat (As := [.inl (f_Re_toFloat a1)]) (st := []) ok_Re_ofFloat rfl rfl rfl (Nat.le_of_ble_eq_true rfl) (Nat.le_of_ble_eq_true rfl) (c_Re_ofFloat (d := d + 1) (f_Re_toFloat a1)) ?_
  rintro _ _ ⟨rfl, rfl⟩
  show X _ _ 28 [some (.inl a0), some (.inr (.inl a1)), none] [.inr (.inl (f_Re_ofFloat (f_Re_toFloat a1)))] _ _
  exact X_lret rfl rfl ⟨rfl, rfl⟩
