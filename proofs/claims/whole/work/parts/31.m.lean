def f_M_isNo (a0 : Int64) : Bool := (cond (cn1 .le (lg_cmp (a0 &&& (9223372036854775807 : Int64)) (9218868437227405312 : Int64))) false true)
theorem c_M_isNo {d : Nat} {P : AP} (a0 : Int64) : X m_M_isNo (d) 0 (entL 2 [.inr (.inl a0)]) [] P (qB P (f_M_isNo a0)) := by
  unfold f_M_isNo
  refine X_run 6 (i1 := cond (cn1 .le (lg_cmp (a0 &&& (9223372036854775807 : Int64)) (9218868437227405312 : Int64))) 8 6) (L1 := [some (.inr (.inl a0)), none]) (st1 := []) rfl ?_
  refine X_brq (fun hb5 => ?_) (fun hb5 => ?_)
  · refine X_run 1 (i1 := 9) (L1 := [some (.inr (.inl a0)), none]) (st1 := [.inl (0 : Int32)]) rfl ?_
    exact X_zret rfl rfl (b2i_01 false) ⟨rfl, rfl⟩
  · refine X_run 2 (i1 := 9) (L1 := [some (.inr (.inl a0)), none]) (st1 := [.inl (1 : Int32)]) rfl ?_
    exact X_zret rfl rfl (b2i_01 true) ⟨rfl, rfl⟩
def f_M_isInfinite (a0 : Int64) : Bool := (cond (cn1 .ne (lg_cmp (a0 &&& (9223372036854775807 : Int64)) (9218868437227405312 : Int64))) false true)
theorem c_M_isInfinite {d : Nat} {P : AP} (a0 : Int64) : X m_M_isInfinite (d) 0 (entL 2 [.inr (.inl a0)]) [] P (qB P (f_M_isInfinite a0)) := by
  unfold f_M_isInfinite
  refine X_run 6 (i1 := cond (cn1 .ne (lg_cmp (a0 &&& (9223372036854775807 : Int64)) (9218868437227405312 : Int64))) 8 6) (L1 := [some (.inr (.inl a0)), none]) (st1 := []) rfl ?_
  refine X_brq (fun hb5 => ?_) (fun hb5 => ?_)
  · refine X_run 1 (i1 := 9) (L1 := [some (.inr (.inl a0)), none]) (st1 := [.inl (0 : Int32)]) rfl ?_
    exact X_zret rfl rfl (b2i_01 false) ⟨rfl, rfl⟩
  · refine X_run 2 (i1 := 9) (L1 := [some (.inr (.inl a0)), none]) (st1 := [.inl (1 : Int32)]) rfl ?_
    exact X_zret rfl rfl (b2i_01 true) ⟨rfl, rfl⟩
def f_M_isZero (a0 : Int64) : Bool := (cond (cn1 .ne (lg_cmp (a0 &&& (9223372036854775807 : Int64)) (0 : Int64))) false true)
theorem c_M_isZero {d : Nat} {P : AP} (a0 : Int64) : X m_M_isZero (d) 0 (entL 2 [.inr (.inl a0)]) [] P (qB P (f_M_isZero a0)) := by
  unfold f_M_isZero
  refine X_run 6 (i1 := cond (cn1 .ne (lg_cmp (a0 &&& (9223372036854775807 : Int64)) (0 : Int64))) 8 6) (L1 := [some (.inr (.inl a0)), none]) (st1 := []) rfl ?_
  refine X_brq (fun hb5 => ?_) (fun hb5 => ?_)
  · refine X_run 1 (i1 := 9) (L1 := [some (.inr (.inl a0)), none]) (st1 := [.inl (0 : Int32)]) rfl ?_
    exact X_zret rfl rfl (b2i_01 false) ⟨rfl, rfl⟩
  · refine X_run 2 (i1 := 9) (L1 := [some (.inr (.inl a0)), none]) (st1 := [.inl (1 : Int32)]) rfl ?_
    exact X_zret rfl rfl (b2i_01 true) ⟨rfl, rfl⟩
def f_M_kept (a0 : Int64) : Int64 := (cond (cn1 .eq (b2i (f_M_isNo a0))) a0 (9221120237041090560 : Int64))
theorem c_M_kept {d : Nat} {P : AP} (a0 : Int64) : X m_M_kept (d + 1) 0 (entL 2 [.inr (.inl a0)]) [] P (qL P (f_M_kept a0)) := by
  unfold f_M_kept
  refine X_run 1 (i1 := 1) (L1 := [some (.inr (.inl a0)), none]) (st1 := [.inr (.inl a0)]) rfl ?_
  refine X_calls m_M_isNo (As := [.inr (.inl a0)]) (st := []) ok_M_isNo rfl rfl rfl (Nat.le_of_ble_eq_true rfl) (Nat.le_of_ble_eq_true rfl) (c_M_isNo (d := d) a0) ?_
  rintro _ _ ⟨rfl, rfl⟩
  show X _ _ 2 [some (.inr (.inl a0)), none] [.inl (b2i (f_M_isNo a0))] _ _
  refine X_run 1 (i1 := cond (cn1 .eq (b2i (f_M_isNo a0))) 5 3) (L1 := [some (.inr (.inl a0)), none]) (st1 := []) rfl ?_
  refine X_brq (fun hb2 => ?_) (fun hb2 => ?_)
  · refine X_run 1 (i1 := 6) (L1 := [some (.inr (.inl a0)), none]) (st1 := [.inr (.inl a0)]) rfl ?_
    exact X_lret rfl rfl ⟨rfl, rfl⟩
  · refine X_run 2 (i1 := 6) (L1 := [some (.inr (.inl a0)), none]) (st1 := [.inr (.inl (9221120237041090560 : Int64))]) rfl ?_
    exact X_lret rfl rfl ⟨rfl, rfl⟩
def f_M_mantissa (a0 : Int64) : Int64 := (cond (cn1 .ne (lg_cmp (((Int64.toUInt64 a0 >>> (Int64.toUInt64 (Int32.toInt64 (52 : Int32)) &&& Int64.toUInt64 63)).toInt64) &&& (2047 : Int64)) (0 : Int64))) ((a0 &&& (4503599627370495 : Int64)) ||| (4503599627370496 : Int64)) (a0 &&& (4503599627370495 : Int64)))
theorem c_M_mantissa {d : Nat} {P : AP} (a0 : Int64) : X m_M_mantissa (d) 0 (entL 4 [.inr (.inl a0)]) [] P (qL P (f_M_mantissa a0)) := by
  unfold f_M_mantissa
  refine X_run 10 (i1 := cond (cn1 .ne (lg_cmp (((Int64.toUInt64 a0 >>> (Int64.toUInt64 (Int32.toInt64 (52 : Int32)) &&& Int64.toUInt64 63)).toInt64) &&& (2047 : Int64)) (0 : Int64))) 14 10) (L1 := [some (.inr (.inl a0)), none, some (.inr (.inl (((Int64.toUInt64 a0 >>> (Int64.toUInt64 (Int32.toInt64 (52 : Int32)) &&& Int64.toUInt64 63)).toInt64) &&& (2047 : Int64)))), none]) (st1 := []) rfl ?_
  refine X_brq (fun hb9 => ?_) (fun hb9 => ?_)
  · refine X_run 5 (i1 := 19) (L1 := [some (.inr (.inl a0)), none, some (.inr (.inl (((Int64.toUInt64 a0 >>> (Int64.toUInt64 (Int32.toInt64 (52 : Int32)) &&& Int64.toUInt64 63)).toInt64) &&& (2047 : Int64)))), none]) (st1 := [.inr (.inl ((a0 &&& (4503599627370495 : Int64)) ||| (4503599627370496 : Int64)))]) rfl ?_
    exact X_lret rfl rfl ⟨rfl, rfl⟩
  · refine X_run 4 (i1 := 19) (L1 := [some (.inr (.inl a0)), none, some (.inr (.inl (((Int64.toUInt64 a0 >>> (Int64.toUInt64 (Int32.toInt64 (52 : Int32)) &&& Int64.toUInt64 63)).toInt64) &&& (2047 : Int64)))), none]) (st1 := [.inr (.inl (a0 &&& (4503599627370495 : Int64)))]) rfl ?_
    exact X_lret rfl rfl ⟨rfl, rfl⟩
def t_M_power_7 (v2 : Int32) : Int32 := (cond (cn1 .ne v2) (v2 - (1075 : Int32)) (-1074 : Int32))
theorem ct_M_power_7 {d : Nat} {P : AP} (v2 : Int32) : X m_M_power (d) 7 [none, none, some (.inl v2)] [] P (qI P (t_M_power_7 v2)) := by
  unfold t_M_power_7
  refine X_run 2 (i1 := cond (cn1 .ne v2) 11 9) (L1 := [none, none, some (.inl v2)]) (st1 := []) rfl ?_
  refine X_brq (fun hb8 => ?_) (fun hb8 => ?_)
  · refine X_run 3 (i1 := 14) (L1 := [none, none, some (.inl v2)]) (st1 := [.inl (v2 - (1075 : Int32))]) rfl ?_
    exact X_iret rfl rfl ⟨rfl, rfl⟩
  · refine X_run 2 (i1 := 14) (L1 := [none, none, some (.inl v2)]) (st1 := [.inl (-1074 : Int32)]) rfl ?_
    exact X_iret rfl rfl ⟨rfl, rfl⟩
def f_M_power (a0 : Int64) : Int32 := (t_M_power_7 (Int64.toInt32 (((Int64.toUInt64 a0 >>> (Int64.toUInt64 (Int32.toInt64 (52 : Int32)) &&& Int64.toUInt64 63)).toInt64) &&& (2047 : Int64))))
theorem c_M_power {d : Nat} {P : AP} (a0 : Int64) : X m_M_power (d) 0 (entL 3 [.inr (.inl a0)]) [] P (qI P (f_M_power a0)) := by
  unfold f_M_power
  refine X_run 7 (i1 := 7) (L1 := [some (.inr (.inl a0)), none, some (.inl (Int64.toInt32 (((Int64.toUInt64 a0 >>> (Int64.toUInt64 (Int32.toInt64 (52 : Int32)) &&& Int64.toUInt64 63)).toInt64) &&& (2047 : Int64))))]) (st1 := []) rfl ?_
  refine X_mask [false, true, true] ?_
  exact ct_M_power_7 (Int64.toInt32 (((Int64.toUInt64 a0 >>> (Int64.toUInt64 (Int32.toInt64 (52 : Int32)) &&& Int64.toUInt64 63)).toInt64) &&& (2047 : Int64)))
def t_M_bits_4 : Nat → Int32 → Int64 → Int32
  | 0, _, _ => 0
  | n + 1, v2, v3 => (cond (cn1 .eq (lg_cmp v3 (0 : Int64))) v2 (t_M_bits_4 n (v2 + Int32.ofInt (1)) ((Int64.toUInt64 v3 >>> (Int64.toUInt64 (Int32.toInt64 (1 : Int32)) &&& Int64.toUInt64 63)).toInt64)))
theorem ct_M_bits_4 {d : Nat} {P : AP} : ∀ (n : Nat) (v2 : Int32) (v3 : Int64), 0 < n ∧ v3.toBitVec.toNat < 2 ^ (n - 1) → X m_M_bits (d) 4 [none, none, some (.inl v2), some (.inr (.inl v3)), none] [] P (qI P (t_M_bits_4 n v2 v3))
  | 0, v2, v3, hI => by exact absurd hI.1 (by decide)
  | n + 1, v2, v3, hI => by
    have ih := @ct_M_bits_4 d P n
    unfold t_M_bits_4
    refine X_run 4 (i1 := cond (cn1 .eq (lg_cmp v3 (0 : Int64))) 14 8) (L1 := [none, none, some (.inl v2), some (.inr (.inl v3)), none]) (st1 := []) rfl ?_
    refine X_brq (fun hb7 => ?_) (fun hb7 => ?_)
    · refine X_run 1 (i1 := 15) (L1 := [none, none, some (.inl v2), some (.inr (.inl v3)), none]) (st1 := [.inl v2]) rfl ?_
      exact X_iret rfl rfl ⟨rfl, rfl⟩
    · refine X_run 6 (i1 := 4) (L1 := [none, none, some (.inl (v2 + Int32.ofInt (1))), some (.inr (.inl ((Int64.toUInt64 v3 >>> (Int64.toUInt64 (Int32.toInt64 (1 : Int32)) &&& Int64.toUInt64 63)).toInt64))), none]) (st1 := []) rfl ?_
      exact ih (v2 + Int32.ofInt (1)) ((Int64.toUInt64 v3 >>> (Int64.toUInt64 (Int32.toInt64 (1 : Int32)) &&& Int64.toUInt64 63)).toInt64) (by rw [un_ushr _ 1 1 (by decide) (by decide)]; exact bits_step hI (un_ne0 (ne0_f hb7)))
def f_M_bits (a0 : Int64) : Int32 := (t_M_bits_4 65 (0 : Int32) a0)
theorem c_M_bits {d : Nat} {P : AP} (a0 : Int64) : X m_M_bits (d) 0 (entL 5 [.inr (.inl a0)]) [] P (qI P (f_M_bits a0)) := by
  unfold f_M_bits
  refine X_run 4 (i1 := 4) (L1 := [some (.inr (.inl a0)), none, some (.inl (0 : Int32)), some (.inr (.inl a0)), none]) (st1 := []) rfl ?_
  refine X_mask [false, true, true, true, true] ?_
  exact ct_M_bits_4 65 (0 : Int32) a0 (by exact ⟨by decide, BitVec.isLt _⟩)
def t_M_packed_107 (v4 : Int32) (v5 : Int32) (v7 : Int64) (v9 : Int32) (v10 : Int64) (w0 : Int64) : Int64 := (cond (cn1 .ge (lg_cmp v7 v10)) (cond (cn1 .lt (lg_cmp ((Int32.toInt64 (v9 - v5)) + (1 : Int64)) w0)) ((((Int32.toInt64 (v9 - v5)) + (1 : Int64)) <<< (Int32.toInt64 (v4 - (1 : Int32)) &&& 63)) ||| (v7 &&& (v10 - (1 : Int64)))) (w0 <<< (Int32.toInt64 (v4 - (1 : Int32)) &&& 63))) v7)
theorem ct_M_packed_107 {d : Nat} {P : AP} (v4 : Int32) (v5 : Int32) (v7 : Int64) (v9 : Int32) (v10 : Int64) (w0 : Int64) : X m_M_packed (d + 1) 107 [none, none, none, none, some (.inl v4), some (.inl v5), none, some (.inr (.inl v7)), none, some (.inl v9), some (.inr (.inl v10)), none, none, none, none, none] [.inr (.inl w0)] P (qL P (t_M_packed_107 v4 v5 v7 v9 v10 w0)) := by
  unfold t_M_packed_107
  refine X_run 5 (i1 := cond (cn1 .ge (lg_cmp v7 v10)) 114 112) (L1 := [none, none, none, none, some (.inl v4), some (.inl v5), none, some (.inr (.inl v7)), none, some (.inl v9), some (.inr (.inl v10)), none, some (.inr (.inl w0)), none, none, none]) (st1 := []) rfl ?_
  refine X_brq (fun hb111 => ?_) (fun hb111 => ?_)
  · refine X_run 11 (i1 := cond (cn1 .lt (lg_cmp ((Int32.toInt64 (v9 - v5)) + (1 : Int64)) w0)) 131 125) (L1 := [none, none, none, none, some (.inl v4), some (.inl v5), none, some (.inr (.inl v7)), none, some (.inl v9), some (.inr (.inl v10)), none, some (.inr (.inl w0)), none, some (.inr (.inl ((Int32.toInt64 (v9 - v5)) + (1 : Int64)))), none]) (st1 := []) rfl ?_
    refine X_brq (fun hb124 => ?_) (fun hb124 => ?_)
    · refine X_run 11 (i1 := 142) (L1 := [none, none, none, none, some (.inl v4), some (.inl v5), none, some (.inr (.inl v7)), none, some (.inl v9), some (.inr (.inl v10)), none, some (.inr (.inl w0)), none, some (.inr (.inl ((Int32.toInt64 (v9 - v5)) + (1 : Int64)))), none]) (st1 := [.inr (.inl ((((Int32.toInt64 (v9 - v5)) + (1 : Int64)) <<< (Int32.toInt64 (v4 - (1 : Int32)) &&& 63)) ||| (v7 &&& (v10 - (1 : Int64)))))]) rfl ?_
      exact X_lret rfl rfl ⟨rfl, rfl⟩
    · refine X_run 6 (i1 := 142) (L1 := [none, none, none, none, some (.inl v4), some (.inl v5), none, some (.inr (.inl v7)), none, some (.inl v9), some (.inr (.inl v10)), none, some (.inr (.inl w0)), none, some (.inr (.inl ((Int32.toInt64 (v9 - v5)) + (1 : Int64)))), none]) (st1 := [.inr (.inl (w0 <<< (Int32.toInt64 (v4 - (1 : Int32)) &&& 63)))]) rfl ?_
      exact X_lret rfl rfl ⟨rfl, rfl⟩
  · refine X_run 1 (i1 := 113) (L1 := [none, none, none, none, some (.inl v4), some (.inl v5), none, some (.inr (.inl v7)), none, some (.inl v9), some (.inr (.inl v10)), none, some (.inr (.inl w0)), none, none, none]) (st1 := [.inr (.inl v7)]) rfl ?_
    exact X_lret rfl rfl ⟨rfl, rfl⟩
def t_M_packed_101 (v4 : Int32) (v5 : Int32) (v7 : Int64) (v9 : Int32) (v10 : Int64) : Int64 := (cond (cn2 .ne v4 (53 : Int32)) (t_M_packed_107 v4 v5 v7 v9 v10 (255 : Int64)) (t_M_packed_107 v4 v5 v7 v9 v10 (2047 : Int64)))
theorem ct_M_packed_101 {d : Nat} {P : AP} (v4 : Int32) (v5 : Int32) (v7 : Int64) (v9 : Int32) (v10 : Int64) : X m_M_packed (d + 1) 101 [none, none, none, none, some (.inl v4), some (.inl v5), none, some (.inr (.inl v7)), none, some (.inl v9), some (.inr (.inl v10)), none, none, none, none, none] [] P (qL P (t_M_packed_101 v4 v5 v7 v9 v10)) := by
  unfold t_M_packed_101
  refine X_run 3 (i1 := cond (cn2 .ne v4 (53 : Int32)) 106 104) (L1 := [none, none, none, none, some (.inl v4), some (.inl v5), none, some (.inr (.inl v7)), none, some (.inl v9), some (.inr (.inl v10)), none, none, none, none, none]) (st1 := []) rfl ?_
  refine X_brq (fun hb103 => ?_) (fun hb103 => ?_)
  · refine X_run 1 (i1 := 107) (L1 := [none, none, none, none, some (.inl v4), some (.inl v5), none, some (.inr (.inl v7)), none, some (.inl v9), some (.inr (.inl v10)), none, none, none, none, none]) (st1 := [.inr (.inl (255 : Int64))]) rfl ?_
    exact ct_M_packed_107 v4 v5 v7 v9 v10 (255 : Int64)
  · refine X_run 2 (i1 := 107) (L1 := [none, none, none, none, some (.inl v4), some (.inl v5), none, some (.inr (.inl v7)), none, some (.inl v9), some (.inr (.inl v10)), none, none, none, none, none]) (st1 := [.inr (.inl (2047 : Int64))]) rfl ?_
    exact ct_M_packed_107 v4 v5 v7 v9 v10 (2047 : Int64)
def t_M_packed_82 (v2 : Int32) (v4 : Int32) (v5 : Int32) (v6 : Int32) (v7 : Int64) : Int64 := (cond (cn1 .ne (lg_cmp v7 (((1 : Int64) <<< (Int32.toInt64 (v4 - (1 : Int32)) &&& 63)) <<< (Int32.toInt64 (1 : Int32) &&& 63)))) (t_M_packed_101 v4 v5 v7 (v2 + v6) ((1 : Int64) <<< (Int32.toInt64 (v4 - (1 : Int32)) &&& 63))) (t_M_packed_101 v4 v5 ((1 : Int64) <<< (Int32.toInt64 (v4 - (1 : Int32)) &&& 63)) ((v2 + v6) + Int32.ofInt (1)) ((1 : Int64) <<< (Int32.toInt64 (v4 - (1 : Int32)) &&& 63))))
theorem ct_M_packed_82 {d : Nat} {P : AP} (v2 : Int32) (v4 : Int32) (v5 : Int32) (v6 : Int32) (v7 : Int64) : X m_M_packed (d + 1) 82 [none, none, some (.inl v2), none, some (.inl v4), some (.inl v5), some (.inl v6), some (.inr (.inl v7)), none, none, none, none, none, none, none, none] [] P (qL P (t_M_packed_82 v2 v4 v5 v6 v7)) := by
  unfold t_M_packed_82
  refine X_run 16 (i1 := cond (cn1 .ne (lg_cmp v7 (((1 : Int64) <<< (Int32.toInt64 (v4 - (1 : Int32)) &&& 63)) <<< (Int32.toInt64 (1 : Int32) &&& 63)))) 101 98) (L1 := [none, none, some (.inl v2), none, some (.inl v4), some (.inl v5), some (.inl v6), some (.inr (.inl v7)), none, some (.inl (v2 + v6)), some (.inr (.inl ((1 : Int64) <<< (Int32.toInt64 (v4 - (1 : Int32)) &&& 63)))), none, none, none, none, none]) (st1 := []) rfl ?_
  refine X_brq (fun hb97 => ?_) (fun hb97 => ?_)
  · refine X_mask [true, true, false, true, true, true, false, true, true, true, true, true, true, true, true, true] ?_
    exact ct_M_packed_101 v4 v5 v7 (v2 + v6) ((1 : Int64) <<< (Int32.toInt64 (v4 - (1 : Int32)) &&& 63))
  · refine X_run 3 (i1 := 101) (L1 := [none, none, some (.inl v2), none, some (.inl v4), some (.inl v5), some (.inl v6), some (.inr (.inl ((1 : Int64) <<< (Int32.toInt64 (v4 - (1 : Int32)) &&& 63)))), none, some (.inl ((v2 + v6) + Int32.ofInt (1))), some (.inr (.inl ((1 : Int64) <<< (Int32.toInt64 (v4 - (1 : Int32)) &&& 63)))), none, none, none, none, none]) (st1 := []) rfl ?_
    refine X_mask [true, true, false, true, true, true, false, true, true, true, true, true, true, true, true, true] ?_
    exact ct_M_packed_101 v4 v5 ((1 : Int64) <<< (Int32.toInt64 (v4 - (1 : Int32)) &&& 63)) ((v2 + v6) + Int32.ofInt (1)) ((1 : Int64) <<< (Int32.toInt64 (v4 - (1 : Int32)) &&& 63))
def t_M_packed_78 (v2 : Int32) (v4 : Int32) (v5 : Int32) (v6 : Int32) (v7 : Int64) : Int64 := (t_M_packed_82 v2 v4 v5 v6 (v7 + (1 : Int64)))
theorem ct_M_packed_78 {d : Nat} {P : AP} (v2 : Int32) (v4 : Int32) (v5 : Int32) (v6 : Int32) (v7 : Int64) : X m_M_packed (d + 1) 78 [none, none, some (.inl v2), none, some (.inl v4), some (.inl v5), some (.inl v6), some (.inr (.inl v7)), none, none, none, none, none, none, none, none] [] P (qL P (t_M_packed_78 v2 v4 v5 v6 v7)) := by
  unfold t_M_packed_78
  refine X_run 4 (i1 := 82) (L1 := [none, none, some (.inl v2), none, some (.inl v4), some (.inl v5), some (.inl v6), some (.inr (.inl (v7 + (1 : Int64)))), none, none, none, none, none, none, none, none]) (st1 := []) rfl ?_
  exact ct_M_packed_82 v2 v4 v5 v6 (v7 + (1 : Int64))
def t_M_packed_55 (v2 : Int32) (v3 : Int32) (v4 : Int32) (v5 : Int32) (v6 : Int32) (v7 : Int64) (w0 : Int64) : Int64 := (cond (cn1 .gt (lg_cmp w0 ((1 : Int64) <<< (Int32.toInt64 (v6 - (1 : Int32)) &&& 63)))) (t_M_packed_78 v2 v4 v5 v6 v7) (cond (cn1 .ne (lg_cmp w0 ((1 : Int64) <<< (Int32.toInt64 (v6 - (1 : Int32)) &&& 63)))) (t_M_packed_82 v2 v4 v5 v6 v7) (cond (cn1 .ne v3) (t_M_packed_78 v2 v4 v5 v6 v7) (cond (cn1 .ne (lg_cmp (v7 &&& (1 : Int64)) (1 : Int64))) (t_M_packed_82 v2 v4 v5 v6 v7) (t_M_packed_78 v2 v4 v5 v6 v7)))))
theorem ct_M_packed_55 {d : Nat} {P : AP} (v2 : Int32) (v3 : Int32) (v4 : Int32) (v5 : Int32) (v6 : Int32) (v7 : Int64) (w0 : Int64) : X m_M_packed (d + 1) 55 [none, none, some (.inl v2), some (.inl v3), some (.inl v4), some (.inl v5), some (.inl v6), some (.inr (.inl v7)), none, none, none, none, none, none, none, none] [.inr (.inl w0)] P (qL P (t_M_packed_55 v2 v3 v4 v5 v6 v7 w0)) := by
  unfold t_M_packed_55
  refine X_run 11 (i1 := cond (cn1 .gt (lg_cmp w0 ((1 : Int64) <<< (Int32.toInt64 (v6 - (1 : Int32)) &&& 63)))) 78 66) (L1 := [none, none, some (.inl v2), some (.inl v3), some (.inl v4), some (.inl v5), some (.inl v6), some (.inr (.inl v7)), none, some (.inr (.inl w0)), none, some (.inr (.inl ((1 : Int64) <<< (Int32.toInt64 (v6 - (1 : Int32)) &&& 63)))), none, none, none, none]) (st1 := []) rfl ?_
  refine X_brq (fun hb65 => ?_) (fun hb65 => ?_)
  · refine X_mask [true, true, true, false, true, true, true, true, true, false, true, false, true, true, true, true] ?_
    exact ct_M_packed_78 v2 v4 v5 v6 v7
  · refine X_run 4 (i1 := cond (cn1 .ne (lg_cmp w0 ((1 : Int64) <<< (Int32.toInt64 (v6 - (1 : Int32)) &&& 63)))) 82 70) (L1 := [none, none, some (.inl v2), some (.inl v3), some (.inl v4), some (.inl v5), some (.inl v6), some (.inr (.inl v7)), none, some (.inr (.inl w0)), none, some (.inr (.inl ((1 : Int64) <<< (Int32.toInt64 (v6 - (1 : Int32)) &&& 63)))), none, none, none, none]) (st1 := []) rfl ?_
    refine X_brq (fun hb69 => ?_) (fun hb69 => ?_)
    · refine X_mask [true, true, true, false, true, true, true, true, true, false, true, false, true, true, true, true] ?_
      exact ct_M_packed_82 v2 v4 v5 v6 v7
    · refine X_run 2 (i1 := cond (cn1 .ne v3) 78 72) (L1 := [none, none, some (.inl v2), some (.inl v3), some (.inl v4), some (.inl v5), some (.inl v6), some (.inr (.inl v7)), none, some (.inr (.inl w0)), none, some (.inr (.inl ((1 : Int64) <<< (Int32.toInt64 (v6 - (1 : Int32)) &&& 63)))), none, none, none, none]) (st1 := []) rfl ?_
      refine X_brq (fun hb71 => ?_) (fun hb71 => ?_)
      · refine X_mask [true, true, true, false, true, true, true, true, true, false, true, false, true, true, true, true] ?_
        exact ct_M_packed_78 v2 v4 v5 v6 v7
      · refine X_run 6 (i1 := cond (cn1 .ne (lg_cmp (v7 &&& (1 : Int64)) (1 : Int64))) 82 78) (L1 := [none, none, some (.inl v2), some (.inl v3), some (.inl v4), some (.inl v5), some (.inl v6), some (.inr (.inl v7)), none, some (.inr (.inl w0)), none, some (.inr (.inl ((1 : Int64) <<< (Int32.toInt64 (v6 - (1 : Int32)) &&& 63)))), none, none, none, none]) (st1 := []) rfl ?_
        refine X_brq (fun hb77 => ?_) (fun hb77 => ?_)
        · refine X_mask [true, true, true, false, true, true, true, true, true, false, true, false, true, true, true, true] ?_
          exact ct_M_packed_82 v2 v4 v5 v6 v7
        · refine X_mask [true, true, true, false, true, true, true, true, true, false, true, false, true, true, true, true] ?_
          exact ct_M_packed_78 v2 v4 v5 v6 v7
def t_M_packed_40 (v0 : Int64) (v2 : Int32) (v3 : Int32) (v4 : Int32) (v5 : Int32) (v6 : Int32) (w0 : Int64) : Int64 := (cond (cn1 .le v6) (t_M_packed_82 v2 v4 v5 v6 w0) (cond (cn2 .ne v6 (63 : Int32)) (t_M_packed_55 v2 v3 v4 v5 v6 w0 (v0 &&& (((1 : Int64) <<< (Int32.toInt64 v6 &&& 63)) - (1 : Int64)))) (t_M_packed_55 v2 v3 v4 v5 v6 w0 v0)))
theorem ct_M_packed_40 {d : Nat} {P : AP} (v0 : Int64) (v2 : Int32) (v3 : Int32) (v4 : Int32) (v5 : Int32) (v6 : Int32) (w0 : Int64) : X m_M_packed (d + 1) 40 [some (.inr (.inl v0)), none, some (.inl v2), some (.inl v3), some (.inl v4), some (.inl v5), some (.inl v6), none, none, none, none, none, none, none, none, none] [.inr (.inl w0)] P (qL P (t_M_packed_40 v0 v2 v3 v4 v5 v6 w0)) := by
  unfold t_M_packed_40
  refine X_run 3 (i1 := cond (cn1 .le v6) 82 43) (L1 := [some (.inr (.inl v0)), none, some (.inl v2), some (.inl v3), some (.inl v4), some (.inl v5), some (.inl v6), some (.inr (.inl w0)), none, none, none, none, none, none, none, none]) (st1 := []) rfl ?_
  refine X_brq (fun hb42 => ?_) (fun hb42 => ?_)
  · refine X_mask [false, true, true, false, true, true, true, true, true, true, true, true, true, true, true, true] ?_
    exact ct_M_packed_82 v2 v4 v5 v6 w0
  · refine X_run 3 (i1 := cond (cn2 .ne v6 (63 : Int32)) 48 46) (L1 := [some (.inr (.inl v0)), none, some (.inl v2), some (.inl v3), some (.inl v4), some (.inl v5), some (.inl v6), some (.inr (.inl w0)), none, none, none, none, none, none, none, none]) (st1 := []) rfl ?_
    refine X_brq (fun hb45 => ?_) (fun hb45 => ?_)
    · refine X_run 7 (i1 := 55) (L1 := [some (.inr (.inl v0)), none, some (.inl v2), some (.inl v3), some (.inl v4), some (.inl v5), some (.inl v6), some (.inr (.inl w0)), none, none, none, none, none, none, none, none]) (st1 := [.inr (.inl (v0 &&& (((1 : Int64) <<< (Int32.toInt64 v6 &&& 63)) - (1 : Int64))))]) rfl ?_
      refine X_mask [false, true, true, true, true, true, true, true, true, true, true, true, true, true, true, true] ?_
      exact ct_M_packed_55 v2 v3 v4 v5 v6 w0 (v0 &&& (((1 : Int64) <<< (Int32.toInt64 v6 &&& 63)) - (1 : Int64)))
    · refine X_run 2 (i1 := 55) (L1 := [some (.inr (.inl v0)), none, some (.inl v2), some (.inl v3), some (.inl v4), some (.inl v5), some (.inl v6), some (.inr (.inl w0)), none, none, none, none, none, none, none, none]) (st1 := [.inr (.inl v0)]) rfl ?_
      refine X_mask [false, true, true, true, true, true, true, true, true, true, true, true, true, true, true, true] ?_
      exact ct_M_packed_55 v2 v3 v4 v5 v6 w0 v0
def t_M_packed_20 (v0 : Int64) (v2 : Int32) (v3 : Int32) (v4 : Int32) (v5 : Int32) (v6 : Int32) : Int64 := (cond (cn2 .le v6 (63 : Int32)) (cond (cn1 .gt v6) (cond (cn2 .ne v6 (63 : Int32)) (t_M_packed_40 v0 v2 v3 v4 v5 v6 ((Int64.toUInt64 v0 >>> (Int64.toUInt64 (Int32.toInt64 v6) &&& Int64.toUInt64 63)).toInt64)) (t_M_packed_40 v0 v2 v3 v4 v5 v6 (0 : Int64))) (t_M_packed_40 v0 v2 v3 v4 v5 v6 (v0 <<< (Int32.toInt64 (-v6) &&& 63)))) (0 : Int64))
theorem ct_M_packed_20 {d : Nat} {P : AP} (v0 : Int64) (v2 : Int32) (v3 : Int32) (v4 : Int32) (v5 : Int32) (v6 : Int32) : X m_M_packed (d + 1) 20 [some (.inr (.inl v0)), none, some (.inl v2), some (.inl v3), some (.inl v4), some (.inl v5), some (.inl v6), none, none, none, none, none, none, none, none, none] [] P (qL P (t_M_packed_20 v0 v2 v3 v4 v5 v6)) := by
  unfold t_M_packed_20
  refine X_run 3 (i1 := cond (cn2 .le v6 (63 : Int32)) 25 23) (L1 := [some (.inr (.inl v0)), none, some (.inl v2), some (.inl v3), some (.inl v4), some (.inl v5), some (.inl v6), none, none, none, none, none, none, none, none, none]) (st1 := []) rfl ?_
  refine X_brq (fun hb22 => ?_) (fun hb22 => ?_)
  · refine X_run 2 (i1 := cond (cn1 .gt v6) 32 27) (L1 := [some (.inr (.inl v0)), none, some (.inl v2), some (.inl v3), some (.inl v4), some (.inl v5), some (.inl v6), none, none, none, none, none, none, none, none, none]) (st1 := []) rfl ?_
    refine X_brq (fun hb26 => ?_) (fun hb26 => ?_)
    · refine X_run 3 (i1 := cond (cn2 .ne v6 (63 : Int32)) 37 35) (L1 := [some (.inr (.inl v0)), none, some (.inl v2), some (.inl v3), some (.inl v4), some (.inl v5), some (.inl v6), none, none, none, none, none, none, none, none, none]) (st1 := []) rfl ?_
      refine X_brq (fun hb34 => ?_) (fun hb34 => ?_)
      · refine X_run 3 (i1 := 40) (L1 := [some (.inr (.inl v0)), none, some (.inl v2), some (.inl v3), some (.inl v4), some (.inl v5), some (.inl v6), none, none, none, none, none, none, none, none, none]) (st1 := [.inr (.inl ((Int64.toUInt64 v0 >>> (Int64.toUInt64 (Int32.toInt64 v6) &&& Int64.toUInt64 63)).toInt64))]) rfl ?_
        exact ct_M_packed_40 v0 v2 v3 v4 v5 v6 ((Int64.toUInt64 v0 >>> (Int64.toUInt64 (Int32.toInt64 v6) &&& Int64.toUInt64 63)).toInt64)
      · refine X_run 2 (i1 := 40) (L1 := [some (.inr (.inl v0)), none, some (.inl v2), some (.inl v3), some (.inl v4), some (.inl v5), some (.inl v6), none, none, none, none, none, none, none, none, none]) (st1 := [.inr (.inl (0 : Int64))]) rfl ?_
        exact ct_M_packed_40 v0 v2 v3 v4 v5 v6 (0 : Int64)
    · refine X_run 5 (i1 := 40) (L1 := [some (.inr (.inl v0)), none, some (.inl v2), some (.inl v3), some (.inl v4), some (.inl v5), some (.inl v6), none, none, none, none, none, none, none, none, none]) (st1 := [.inr (.inl (v0 <<< (Int32.toInt64 (-v6) &&& 63)))]) rfl ?_
      exact ct_M_packed_40 v0 v2 v3 v4 v5 v6 (v0 <<< (Int32.toInt64 (-v6) &&& 63))
  · refine X_run 1 (i1 := 24) (L1 := [some (.inr (.inl v0)), none, some (.inl v2), some (.inl v3), some (.inl v4), some (.inl v5), some (.inl v6), none, none, none, none, none, none, none, none, none]) (st1 := [.inr (.inl (0 : Int64))]) rfl ?_
    exact X_lret rfl rfl ⟨rfl, rfl⟩
def f_M_packed (a0 : Int64) (a1 : Int32) (a2 : Int32) (a3 : Int32) (a4 : Int32) : Int64 := (cond (cn1 .ne (lg_cmp a0 (0 : Int64))) (cond (cn2 .ge (a1 + ((f_M_bits a0) - a3)) a4) (t_M_packed_20 a0 a1 a2 a3 a4 ((f_M_bits a0) - a3)) (t_M_packed_20 a0 a1 a2 a3 a4 (a4 - a1))) (0 : Int64))
theorem c_M_packed {d : Nat} {P : AP} (a0 : Int64) (a1 : Int32) (a2 : Int32) (a3 : Int32) (a4 : Int32) : X m_M_packed (d + 1) 0 (entL 16 [.inr (.inl a0), .inl a1, .inl a2, .inl a3, .inl a4]) [] P (qL P (f_M_packed a0 a1 a2 a3 a4)) := by
  unfold f_M_packed
  refine X_run 4 (i1 := cond (cn1 .ne (lg_cmp a0 (0 : Int64))) 6 4) (L1 := [some (.inr (.inl a0)), none, some (.inl a1), some (.inl a2), some (.inl a3), some (.inl a4), none, none, none, none, none, none, none, none, none, none]) (st1 := []) rfl ?_
  refine X_brq (fun hb3 => ?_) (fun hb3 => ?_)
  · refine X_run 1 (i1 := 7) (L1 := [some (.inr (.inl a0)), none, some (.inl a1), some (.inl a2), some (.inl a3), some (.inl a4), none, none, none, none, none, none, none, none, none, none]) (st1 := [.inr (.inl a0)]) rfl ?_
    refine X_calls m_M_bits (As := [.inr (.inl a0)]) (st := []) ok_M_bits rfl rfl rfl (Nat.le_of_ble_eq_true rfl) (Nat.le_of_ble_eq_true rfl) (c_M_bits (d := d) a0) ?_
    rintro _ _ ⟨rfl, rfl⟩
    show X _ _ 8 [some (.inr (.inl a0)), none, some (.inl a1), some (.inl a2), some (.inl a3), some (.inl a4), none, none, none, none, none, none, none, none, none, none] [.inl (f_M_bits a0)] _ _
    refine X_run 8 (i1 := cond (cn2 .ge (a1 + ((f_M_bits a0) - a3)) a4) 20 16) (L1 := [some (.inr (.inl a0)), none, some (.inl a1), some (.inl a2), some (.inl a3), some (.inl a4), some (.inl ((f_M_bits a0) - a3)), none, none, none, none, none, none, none, none, none]) (st1 := []) rfl ?_
    refine X_brq (fun hb15 => ?_) (fun hb15 => ?_)
    · exact ct_M_packed_20 a0 a1 a2 a3 a4 ((f_M_bits a0) - a3)
    · refine X_run 4 (i1 := 20) (L1 := [some (.inr (.inl a0)), none, some (.inl a1), some (.inl a2), some (.inl a3), some (.inl a4), some (.inl (a4 - a1)), none, none, none, none, none, none, none, none, none]) (st1 := []) rfl ?_
      exact ct_M_packed_20 a0 a1 a2 a3 a4 (a4 - a1)
  · refine X_run 1 (i1 := 5) (L1 := [some (.inr (.inl a0)), none, some (.inl a1), some (.inl a2), some (.inl a3), some (.inl a4), none, none, none, none, none, none, none, none, none, none]) (st1 := [.inr (.inl (0 : Int64))]) rfl ?_
    exact X_lret rfl rfl ⟨rfl, rfl⟩
def f_M_signed (a0 : Int32) (a1 : Int64) (a2 : Int32) (a3 : Int32) : Int64 := (cond (cn1 .eq a0) ((f_M_packed a1 a2 a3 (53 : Int32) (-1074 : Int32)) ||| (0 : Int64)) ((f_M_packed a1 a2 a3 (53 : Int32) (-1074 : Int32)) ||| (-9223372036854775808 : Int64)))
theorem c_M_signed {d : Nat} {P : AP} (a0 : Int32) (a1 : Int64) (a2 : Int32) (a3 : Int32) : X m_M_signed (d + 2) 0 (entL 5 [.inl a0, .inr (.inl a1), .inl a2, .inl a3]) [] P (qL P (f_M_signed a0 a1 a2 a3)) := by
  unfold f_M_signed
  refine X_run 5 (i1 := 5) (L1 := [some (.inl a0), some (.inr (.inl a1)), none, some (.inl a2), some (.inl a3)]) (st1 := [.inl (-1074 : Int32), .inl (53 : Int32), .inl a3, .inl a2, .inr (.inl a1)]) rfl ?_
  refine X_calls m_M_packed (As := [.inr (.inl a1), .inl a2, .inl a3, .inl (53 : Int32), .inl (-1074 : Int32)]) (st := []) ok_M_packed rfl rfl rfl (Nat.le_of_ble_eq_true rfl) (Nat.le_of_ble_eq_true rfl) (c_M_packed (d := d) a1 a2 a3 (53 : Int32) (-1074 : Int32)) ?_
  rintro _ _ ⟨rfl, rfl⟩
  show X _ _ 6 [some (.inl a0), some (.inr (.inl a1)), none, some (.inl a2), some (.inl a3)] [.inr (.inl (f_M_packed a1 a2 a3 (53 : Int32) (-1074 : Int32)))] _ _
  refine X_run 2 (i1 := cond (cn1 .eq a0) 10 8) (L1 := [some (.inl a0), some (.inr (.inl a1)), none, some (.inl a2), some (.inl a3)]) (st1 := [.inr (.inl (f_M_packed a1 a2 a3 (53 : Int32) (-1074 : Int32)))]) rfl ?_
  refine X_brq (fun hb7 => ?_) (fun hb7 => ?_)
  · refine X_run 2 (i1 := 12) (L1 := [some (.inl a0), some (.inr (.inl a1)), none, some (.inl a2), some (.inl a3)]) (st1 := [.inr (.inl ((f_M_packed a1 a2 a3 (53 : Int32) (-1074 : Int32)) ||| (0 : Int64)))]) rfl ?_
    exact X_lret rfl rfl ⟨rfl, rfl⟩
  · refine X_run 3 (i1 := 12) (L1 := [some (.inl a0), some (.inr (.inl a1)), none, some (.inl a2), some (.inl a3)]) (st1 := [.inr (.inl ((f_M_packed a1 a2 a3 (53 : Int32) (-1074 : Int32)) ||| (-9223372036854775808 : Int64)))]) rfl ?_
    exact X_lret rfl rfl ⟨rfl, rfl⟩
