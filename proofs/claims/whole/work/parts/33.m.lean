def t_M_added_174 (v4 : Int64) (v9 : Int32) (v10 : Int64) (v15 : Int32) (v16 : Int32) : Int64 := (f_M_signed v16 v10 ((f_M_power v4) - v9) v15)
theorem ct_M_added_174 {d : Nat} {P : AP} (v4 : Int64) (v9 : Int32) (v10 : Int64) (v15 : Int32) (v16 : Int32) : X m_M_added (d + 3) 174 [none, none, none, none, some (.inr (.inl v4)), none, none, none, none, some (.inl v9), some (.inr (.inl v10)), none, none, none, none, some (.inl v15), some (.inl v16)] [] P (qL P (t_M_added_174 v4 v9 v10 v15 v16)) := by
  unfold t_M_added_174
  refine X_run 3 (i1 := 177) (L1 := [none, none, none, none, some (.inr (.inl v4)), none, none, none, none, some (.inl v9), some (.inr (.inl v10)), none, none, none, none, some (.inl v15), some (.inl v16)]) (st1 := [.inr (.inl v4), .inr (.inl v10), .inl v16]) rfl ?_
  refine X_calls m_M_power (As := [.inr (.inl v4)]) (st := [.inr (.inl v10), .inl v16]) ok_M_power rfl rfl rfl (Nat.le_of_ble_eq_true rfl) (Nat.le_of_ble_eq_true rfl) (c_M_power (d := d + 2) v4) ?_
  rintro _ _ ⟨rfl, rfl⟩
  show X _ _ 178 [none, none, none, none, some (.inr (.inl v4)), none, none, none, none, some (.inl v9), some (.inr (.inl v10)), none, none, none, none, some (.inl v15), some (.inl v16)] [.inl (f_M_power v4), .inr (.inl v10), .inl v16] _ _
  refine X_run 3 (i1 := 181) (L1 := [none, none, none, none, some (.inr (.inl v4)), none, none, none, none, some (.inl v9), some (.inr (.inl v10)), none, none, none, none, some (.inl v15), some (.inl v16)]) (st1 := [.inl v15, .inl ((f_M_power v4) - v9), .inr (.inl v10), .inl v16]) rfl ?_
  refine X_calls m_M_signed (As := [.inl v16, .inr (.inl v10), .inl ((f_M_power v4) - v9), .inl v15]) (st := []) ok_M_signed rfl rfl rfl (Nat.le_of_ble_eq_true rfl) (Nat.le_of_ble_eq_true rfl) (c_M_signed (d := d) v16 v10 ((f_M_power v4) - v9) v15) ?_
  rintro _ _ ⟨rfl, rfl⟩
  show X _ _ 182 [none, none, none, none, some (.inr (.inl v4)), none, none, none, none, some (.inl v9), some (.inr (.inl v10)), none, none, none, none, some (.inl v15), some (.inl v16)] [.inr (.inl (f_M_signed v16 v10 ((f_M_power v4) - v9) v15))] _ _
  exact X_lret rfl rfl ⟨rfl, rfl⟩
def t_M_added_166 (v4 : Int64) (v9 : Int32) (v10 : Int64) (v15 : Int32) (v16 : Int32) : Int64 := (cond (cn1 .ne (lg_cmp v10 (0 : Int64))) (t_M_added_174 v4 v9 v10 v15 v16) (cond (cn1 .ne v15) (t_M_added_174 v4 v9 v10 v15 v16) (0 : Int64)))
theorem ct_M_added_166 {d : Nat} {P : AP} (v4 : Int64) (v9 : Int32) (v10 : Int64) (v15 : Int32) (v16 : Int32) : X m_M_added (d + 3) 166 [none, none, none, none, some (.inr (.inl v4)), none, none, none, none, some (.inl v9), some (.inr (.inl v10)), none, none, none, none, some (.inl v15), some (.inl v16)] [] P (qL P (t_M_added_166 v4 v9 v10 v15 v16)) := by
  unfold t_M_added_166
  refine X_run 4 (i1 := cond (cn1 .ne (lg_cmp v10 (0 : Int64))) 174 170) (L1 := [none, none, none, none, some (.inr (.inl v4)), none, none, none, none, some (.inl v9), some (.inr (.inl v10)), none, none, none, none, some (.inl v15), some (.inl v16)]) (st1 := []) rfl ?_
  refine X_brq (fun hb169 => ?_) (fun hb169 => ?_)
  · exact ct_M_added_174 v4 v9 v10 v15 v16
  · refine X_run 2 (i1 := cond (cn1 .ne v15) 174 172) (L1 := [none, none, none, none, some (.inr (.inl v4)), none, none, none, none, some (.inl v9), some (.inr (.inl v10)), none, none, none, none, some (.inl v15), some (.inl v16)]) (st1 := []) rfl ?_
    refine X_brq (fun hb171 => ?_) (fun hb171 => ?_)
    · exact ct_M_added_174 v4 v9 v10 v15 v16
    · refine X_run 1 (i1 := 173) (L1 := [none, none, none, none, some (.inr (.inl v4)), none, none, none, none, some (.inl v9), some (.inr (.inl v10)), none, none, none, none, some (.inl v15), some (.inl v16)]) (st1 := [.inr (.inl (0 : Int64))]) rfl ?_
      exact X_lret rfl rfl ⟨rfl, rfl⟩
def t_M_added_165 (v4 : Int64) (v9 : Int32) (v10 : Int64) (v15 : Int32) (w0 : Int32) : Int64 := (t_M_added_166 v4 v9 v10 v15 w0)
theorem ct_M_added_165 {d : Nat} {P : AP} (v4 : Int64) (v9 : Int32) (v10 : Int64) (v15 : Int32) (w0 : Int32) : X m_M_added (d + 3) 165 [none, none, none, none, some (.inr (.inl v4)), none, none, none, none, some (.inl v9), some (.inr (.inl v10)), none, none, none, none, some (.inl v15), none] [.inl w0] P (qL P (t_M_added_165 v4 v9 v10 v15 w0)) := by
  unfold t_M_added_165
  refine X_run 1 (i1 := 166) (L1 := [none, none, none, none, some (.inr (.inl v4)), none, none, none, none, some (.inl v9), some (.inr (.inl v10)), none, none, none, none, some (.inl v15), some (.inl w0)]) (st1 := []) rfl ?_
  exact ct_M_added_166 v4 v9 v10 v15 w0
def t_M_added_153 (v4 : Int64) (v9 : Int32) (v10 : Int64) (v15 : Int32) (v16 : Int32) : Int64 := (cond (cn1 .ge (lg_cmp v10 (0 : Int64))) (t_M_added_166 v4 v9 v10 v15 v16) (cond (cn1 .ne v16) (t_M_added_165 v4 v9 (-v10) v15 (0 : Int32)) (t_M_added_165 v4 v9 (-v10) v15 (1 : Int32))))
theorem ct_M_added_153 {d : Nat} {P : AP} (v4 : Int64) (v9 : Int32) (v10 : Int64) (v15 : Int32) (v16 : Int32) : X m_M_added (d + 3) 153 [none, none, none, none, some (.inr (.inl v4)), none, none, none, none, some (.inl v9), some (.inr (.inl v10)), none, none, none, none, some (.inl v15), some (.inl v16)] [] P (qL P (t_M_added_153 v4 v9 v10 v15 v16)) := by
  unfold t_M_added_153
  refine X_run 4 (i1 := cond (cn1 .ge (lg_cmp v10 (0 : Int64))) 166 157) (L1 := [none, none, none, none, some (.inr (.inl v4)), none, none, none, none, some (.inl v9), some (.inr (.inl v10)), none, none, none, none, some (.inl v15), some (.inl v16)]) (st1 := []) rfl ?_
  refine X_brq (fun hb156 => ?_) (fun hb156 => ?_)
  · exact ct_M_added_166 v4 v9 v10 v15 v16
  · refine X_run 5 (i1 := cond (cn1 .ne v16) 164 162) (L1 := [none, none, none, none, some (.inr (.inl v4)), none, none, none, none, some (.inl v9), some (.inr (.inl (-v10))), none, none, none, none, some (.inl v15), some (.inl v16)]) (st1 := []) rfl ?_
    refine X_brq (fun hb161 => ?_) (fun hb161 => ?_)
    · refine X_run 1 (i1 := 165) (L1 := [none, none, none, none, some (.inr (.inl v4)), none, none, none, none, some (.inl v9), some (.inr (.inl (-v10))), none, none, none, none, some (.inl v15), some (.inl v16)]) (st1 := [.inl (0 : Int32)]) rfl ?_
      refine X_mask [true, true, true, true, true, true, true, true, true, true, true, true, true, true, true, true, false] ?_
      exact ct_M_added_165 v4 v9 (-v10) v15 (0 : Int32)
    · refine X_run 2 (i1 := 165) (L1 := [none, none, none, none, some (.inr (.inl v4)), none, none, none, none, some (.inl v9), some (.inr (.inl (-v10))), none, none, none, none, some (.inl v15), some (.inl v16)]) (st1 := [.inl (1 : Int32)]) rfl ?_
      refine X_mask [true, true, true, true, true, true, true, true, true, true, true, true, true, true, true, true, false] ?_
      exact ct_M_added_165 v4 v9 (-v10) v15 (1 : Int32)
def t_M_added_137 (v4 : Int64) (v9 : Int32) (v10 : Int64) (v12 : Int64) (v15 : Int32) (v16 : Int32) (w0 : Int32) (w1 : Int32) : Int64 := (cond (cn2 .ne w1 w0) (cond (cn1 .eq v15) (t_M_added_153 v4 v9 (v10 - v12) v15 v16) (t_M_added_153 v4 v9 ((v10 - v12) - (1 : Int64)) v15 v16)) (t_M_added_166 v4 v9 (v10 + v12) v15 v16))
theorem ct_M_added_137 {d : Nat} {P : AP} (v4 : Int64) (v9 : Int32) (v10 : Int64) (v12 : Int64) (v15 : Int32) (v16 : Int32) (w0 : Int32) (w1 : Int32) : X m_M_added (d + 3) 137 [none, none, none, none, some (.inr (.inl v4)), none, none, none, none, some (.inl v9), some (.inr (.inl v10)), none, some (.inr (.inl v12)), none, none, some (.inl v15), some (.inl v16)] [.inl w0, .inl w1] P (qL P (t_M_added_137 v4 v9 v10 v12 v15 v16 w0 w1)) := by
  unfold t_M_added_137
  refine X_run 1 (i1 := cond (cn2 .ne w1 w0) 143 138) (L1 := [none, none, none, none, some (.inr (.inl v4)), none, none, none, none, some (.inl v9), some (.inr (.inl v10)), none, some (.inr (.inl v12)), none, none, some (.inl v15), some (.inl v16)]) (st1 := []) rfl ?_
  refine X_brq (fun hb137 => ?_) (fun hb137 => ?_)
  · refine X_run 6 (i1 := cond (cn1 .eq v15) 153 149) (L1 := [none, none, none, none, some (.inr (.inl v4)), none, none, none, none, some (.inl v9), some (.inr (.inl (v10 - v12))), none, some (.inr (.inl v12)), none, none, some (.inl v15), some (.inl v16)]) (st1 := []) rfl ?_
    refine X_brq (fun hb148 => ?_) (fun hb148 => ?_)
    · refine X_mask [true, true, true, true, true, true, true, true, true, true, true, true, false, true, true, true, true] ?_
      exact ct_M_added_153 v4 v9 (v10 - v12) v15 v16
    · refine X_run 4 (i1 := 153) (L1 := [none, none, none, none, some (.inr (.inl v4)), none, none, none, none, some (.inl v9), some (.inr (.inl ((v10 - v12) - (1 : Int64)))), none, some (.inr (.inl v12)), none, none, some (.inl v15), some (.inl v16)]) (st1 := []) rfl ?_
      refine X_mask [true, true, true, true, true, true, true, true, true, true, true, true, false, true, true, true, true] ?_
      exact ct_M_added_153 v4 v9 ((v10 - v12) - (1 : Int64)) v15 v16
  · refine X_run 5 (i1 := 166) (L1 := [none, none, none, none, some (.inr (.inl v4)), none, none, none, none, some (.inl v9), some (.inr (.inl (v10 + v12))), none, some (.inr (.inl v12)), none, none, some (.inl v15), some (.inl v16)]) (st1 := []) rfl ?_
    refine X_mask [true, true, true, true, true, true, true, true, true, true, true, true, false, true, true, true, true] ?_
    exact ct_M_added_166 v4 v9 (v10 + v12) v15 v16
def t_M_added_130 (v4 : Int64) (v6 : Int64) (v9 : Int32) (v10 : Int64) (v12 : Int64) (v15 : Int32) (v16 : Int32) (w0 : Int32) : Int64 := (cond (cn1 .ge (lg_cmp v6 (0 : Int64))) (t_M_added_137 v4 v9 v10 v12 v15 v16 (0 : Int32) w0) (t_M_added_137 v4 v9 v10 v12 v15 v16 (1 : Int32) w0))
theorem ct_M_added_130 {d : Nat} {P : AP} (v4 : Int64) (v6 : Int64) (v9 : Int32) (v10 : Int64) (v12 : Int64) (v15 : Int32) (v16 : Int32) (w0 : Int32) : X m_M_added (d + 3) 130 [none, none, none, none, some (.inr (.inl v4)), none, some (.inr (.inl v6)), none, none, some (.inl v9), some (.inr (.inl v10)), none, some (.inr (.inl v12)), none, none, some (.inl v15), some (.inl v16)] [.inl w0] P (qL P (t_M_added_130 v4 v6 v9 v10 v12 v15 v16 w0)) := by
  unfold t_M_added_130
  refine X_run 4 (i1 := cond (cn1 .ge (lg_cmp v6 (0 : Int64))) 136 134) (L1 := [none, none, none, none, some (.inr (.inl v4)), none, some (.inr (.inl v6)), none, none, some (.inl v9), some (.inr (.inl v10)), none, some (.inr (.inl v12)), none, none, some (.inl v15), some (.inl v16)]) (st1 := [.inl w0]) rfl ?_
  refine X_brq (fun hb133 => ?_) (fun hb133 => ?_)
  · refine X_run 1 (i1 := 137) (L1 := [none, none, none, none, some (.inr (.inl v4)), none, some (.inr (.inl v6)), none, none, some (.inl v9), some (.inr (.inl v10)), none, some (.inr (.inl v12)), none, none, some (.inl v15), some (.inl v16)]) (st1 := [.inl (0 : Int32), .inl w0]) rfl ?_
    refine X_mask [true, true, true, true, true, true, false, true, true, true, true, true, true, true, true, true, true] ?_
    exact ct_M_added_137 v4 v9 v10 v12 v15 v16 (0 : Int32) w0
  · refine X_run 2 (i1 := 137) (L1 := [none, none, none, none, some (.inr (.inl v4)), none, some (.inr (.inl v6)), none, none, some (.inl v9), some (.inr (.inl v10)), none, some (.inr (.inl v12)), none, none, some (.inl v15), some (.inl v16)]) (st1 := [.inl (1 : Int32), .inl w0]) rfl ?_
    refine X_mask [true, true, true, true, true, true, false, true, true, true, true, true, true, true, true, true, true] ?_
    exact ct_M_added_137 v4 v9 v10 v12 v15 v16 (1 : Int32) w0
def t_M_added_122 (v4 : Int64) (v6 : Int64) (v9 : Int32) (v10 : Int64) (v12 : Int64) (v15 : Int32) (w0 : Int32) : Int64 := (cond (cn1 .ge (lg_cmp v4 (0 : Int64))) (t_M_added_130 v4 v6 v9 v10 v12 v15 w0 (0 : Int32)) (t_M_added_130 v4 v6 v9 v10 v12 v15 w0 (1 : Int32)))
theorem ct_M_added_122 {d : Nat} {P : AP} (v4 : Int64) (v6 : Int64) (v9 : Int32) (v10 : Int64) (v12 : Int64) (v15 : Int32) (w0 : Int32) : X m_M_added (d + 3) 122 [none, none, none, none, some (.inr (.inl v4)), none, some (.inr (.inl v6)), none, none, some (.inl v9), some (.inr (.inl v10)), none, some (.inr (.inl v12)), none, none, some (.inl v15), none] [.inl w0] P (qL P (t_M_added_122 v4 v6 v9 v10 v12 v15 w0)) := by
  unfold t_M_added_122
  refine X_run 5 (i1 := cond (cn1 .ge (lg_cmp v4 (0 : Int64))) 129 127) (L1 := [none, none, none, none, some (.inr (.inl v4)), none, some (.inr (.inl v6)), none, none, some (.inl v9), some (.inr (.inl v10)), none, some (.inr (.inl v12)), none, none, some (.inl v15), some (.inl w0)]) (st1 := []) rfl ?_
  refine X_brq (fun hb126 => ?_) (fun hb126 => ?_)
  · refine X_run 1 (i1 := 130) (L1 := [none, none, none, none, some (.inr (.inl v4)), none, some (.inr (.inl v6)), none, none, some (.inl v9), some (.inr (.inl v10)), none, some (.inr (.inl v12)), none, none, some (.inl v15), some (.inl w0)]) (st1 := [.inl (0 : Int32)]) rfl ?_
    exact ct_M_added_130 v4 v6 v9 v10 v12 v15 w0 (0 : Int32)
  · refine X_run 2 (i1 := 130) (L1 := [none, none, none, none, some (.inr (.inl v4)), none, some (.inr (.inl v6)), none, none, some (.inl v9), some (.inr (.inl v10)), none, some (.inr (.inl v12)), none, none, some (.inl v15), some (.inl w0)]) (st1 := [.inl (1 : Int32)]) rfl ?_
    exact ct_M_added_130 v4 v6 v9 v10 v12 v15 w0 (1 : Int32)
def t_M_added_114 (v4 : Int64) (v6 : Int64) (v9 : Int32) (v10 : Int64) (v15 : Int32) (w0 : Int64) : Int64 := (cond (cn1 .ge (lg_cmp v4 (0 : Int64))) (t_M_added_122 v4 v6 v9 v10 w0 v15 (0 : Int32)) (t_M_added_122 v4 v6 v9 v10 w0 v15 (1 : Int32)))
theorem ct_M_added_114 {d : Nat} {P : AP} (v4 : Int64) (v6 : Int64) (v9 : Int32) (v10 : Int64) (v15 : Int32) (w0 : Int64) : X m_M_added (d + 3) 114 [none, none, none, none, some (.inr (.inl v4)), none, some (.inr (.inl v6)), none, none, some (.inl v9), some (.inr (.inl v10)), none, none, none, none, some (.inl v15), none] [.inr (.inl w0)] P (qL P (t_M_added_114 v4 v6 v9 v10 v15 w0)) := by
  unfold t_M_added_114
  refine X_run 5 (i1 := cond (cn1 .ge (lg_cmp v4 (0 : Int64))) 121 119) (L1 := [none, none, none, none, some (.inr (.inl v4)), none, some (.inr (.inl v6)), none, none, some (.inl v9), some (.inr (.inl v10)), none, some (.inr (.inl w0)), none, none, some (.inl v15), none]) (st1 := []) rfl ?_
  refine X_brq (fun hb118 => ?_) (fun hb118 => ?_)
  · refine X_run 1 (i1 := 122) (L1 := [none, none, none, none, some (.inr (.inl v4)), none, some (.inr (.inl v6)), none, none, some (.inl v9), some (.inr (.inl v10)), none, some (.inr (.inl w0)), none, none, some (.inl v15), none]) (st1 := [.inl (0 : Int32)]) rfl ?_
    exact ct_M_added_122 v4 v6 v9 v10 w0 v15 (0 : Int32)
  · refine X_run 2 (i1 := 122) (L1 := [none, none, none, none, some (.inr (.inl v4)), none, some (.inr (.inl v6)), none, none, some (.inl v9), some (.inr (.inl v10)), none, some (.inr (.inl w0)), none, none, some (.inl v15), none]) (st1 := [.inl (1 : Int32)]) rfl ?_
    exact ct_M_added_122 v4 v6 v9 v10 w0 v15 (1 : Int32)
def t_M_added_105 (v4 : Int64) (v6 : Int64) (v9 : Int32) (v10 : Int64) (v12 : Int64) (v14 : Int32) (w0 : Int32) : Int64 := (cond (cn2 .le v14 (62 : Int32)) (t_M_added_114 v4 v6 v9 v10 w0 ((Int64.toUInt64 v12 >>> (Int64.toUInt64 (Int32.toInt64 v14) &&& Int64.toUInt64 63)).toInt64)) (t_M_added_114 v4 v6 v9 v10 w0 (0 : Int64)))
theorem ct_M_added_105 {d : Nat} {P : AP} (v4 : Int64) (v6 : Int64) (v9 : Int32) (v10 : Int64) (v12 : Int64) (v14 : Int32) (w0 : Int32) : X m_M_added (d + 3) 105 [none, none, none, none, some (.inr (.inl v4)), none, some (.inr (.inl v6)), none, none, some (.inl v9), some (.inr (.inl v10)), none, some (.inr (.inl v12)), none, some (.inl v14), none, none] [.inl w0] P (qL P (t_M_added_105 v4 v6 v9 v10 v12 v14 w0)) := by
  unfold t_M_added_105
  refine X_run 4 (i1 := cond (cn2 .le v14 (62 : Int32)) 111 109) (L1 := [none, none, none, none, some (.inr (.inl v4)), none, some (.inr (.inl v6)), none, none, some (.inl v9), some (.inr (.inl v10)), none, some (.inr (.inl v12)), none, some (.inl v14), some (.inl w0), none]) (st1 := []) rfl ?_
  refine X_brq (fun hb108 => ?_) (fun hb108 => ?_)
  · refine X_run 3 (i1 := 114) (L1 := [none, none, none, none, some (.inr (.inl v4)), none, some (.inr (.inl v6)), none, none, some (.inl v9), some (.inr (.inl v10)), none, some (.inr (.inl v12)), none, some (.inl v14), some (.inl w0), none]) (st1 := [.inr (.inl ((Int64.toUInt64 v12 >>> (Int64.toUInt64 (Int32.toInt64 v14) &&& Int64.toUInt64 63)).toInt64))]) rfl ?_
    refine X_mask [true, true, true, true, true, true, true, true, true, true, true, true, false, true, false, true, true] ?_
    exact ct_M_added_114 v4 v6 v9 v10 w0 ((Int64.toUInt64 v12 >>> (Int64.toUInt64 (Int32.toInt64 v14) &&& Int64.toUInt64 63)).toInt64)
  · refine X_run 2 (i1 := 114) (L1 := [none, none, none, none, some (.inr (.inl v4)), none, some (.inr (.inl v6)), none, none, some (.inl v9), some (.inr (.inl v10)), none, some (.inr (.inl v12)), none, some (.inl v14), some (.inl w0), none]) (st1 := [.inr (.inl (0 : Int64))]) rfl ?_
    refine X_mask [true, true, true, true, true, true, true, true, true, true, true, true, false, true, false, true, true] ?_
    exact ct_M_added_114 v4 v6 v9 v10 w0 (0 : Int64)
def t_M_added_68 (v4 : Int64) (v6 : Int64) (v8 : Int32) (w0 : Int32) : Int64 := (cond (cn2 .le (v8 - w0) (62 : Int32)) (cond (cn1 .eq (lg_cmp ((f_M_mantissa v6) &&& (((1 : Int64) <<< (Int32.toInt64 (v8 - w0) &&& 63)) - (1 : Int64))) (0 : Int64))) (t_M_added_105 v4 v6 w0 ((f_M_mantissa v4) <<< (Int32.toInt64 w0 &&& 63)) (f_M_mantissa v6) (v8 - w0) (0 : Int32)) (t_M_added_105 v4 v6 w0 ((f_M_mantissa v4) <<< (Int32.toInt64 w0 &&& 63)) (f_M_mantissa v6) (v8 - w0) (1 : Int32))) (cond (cn1 .eq (lg_cmp (f_M_mantissa v6) (0 : Int64))) (t_M_added_105 v4 v6 w0 ((f_M_mantissa v4) <<< (Int32.toInt64 w0 &&& 63)) (f_M_mantissa v6) (v8 - w0) (0 : Int32)) (t_M_added_105 v4 v6 w0 ((f_M_mantissa v4) <<< (Int32.toInt64 w0 &&& 63)) (f_M_mantissa v6) (v8 - w0) (1 : Int32))))
theorem ct_M_added_68 {d : Nat} {P : AP} (v4 : Int64) (v6 : Int64) (v8 : Int32) (w0 : Int32) : X m_M_added (d + 3) 68 [none, none, none, none, some (.inr (.inl v4)), none, some (.inr (.inl v6)), none, some (.inl v8), none, none, none, none, none, none, none, none] [.inl w0] P (qL P (t_M_added_68 v4 v6 v8 w0)) := by
  unfold t_M_added_68
  refine X_run 2 (i1 := 70) (L1 := [none, none, none, none, some (.inr (.inl v4)), none, some (.inr (.inl v6)), none, some (.inl v8), some (.inl w0), none, none, none, none, none, none, none]) (st1 := [.inr (.inl v4)]) rfl ?_
  refine X_calls m_M_mantissa (As := [.inr (.inl v4)]) (st := []) ok_M_mantissa rfl rfl rfl (Nat.le_of_ble_eq_true rfl) (Nat.le_of_ble_eq_true rfl) (c_M_mantissa (d := d + 2) v4) ?_
  rintro _ _ ⟨rfl, rfl⟩
  show X _ _ 71 [none, none, none, none, some (.inr (.inl v4)), none, some (.inr (.inl v6)), none, some (.inl v8), some (.inl w0), none, none, none, none, none, none, none] [.inr (.inl (f_M_mantissa v4))] _ _
  refine X_run 4 (i1 := 75) (L1 := [none, none, none, none, some (.inr (.inl v4)), none, some (.inr (.inl v6)), none, some (.inl v8), some (.inl w0), some (.inr (.inl ((f_M_mantissa v4) <<< (Int32.toInt64 w0 &&& 63)))), none, none, none, none, none, none]) (st1 := [.inr (.inl v6)]) rfl ?_
  refine X_calls m_M_mantissa (As := [.inr (.inl v6)]) (st := []) ok_M_mantissa rfl rfl rfl (Nat.le_of_ble_eq_true rfl) (Nat.le_of_ble_eq_true rfl) (c_M_mantissa (d := d + 2) v6) ?_
  rintro _ _ ⟨rfl, rfl⟩
  show X _ _ 76 [none, none, none, none, some (.inr (.inl v4)), none, some (.inr (.inl v6)), none, some (.inl v8), some (.inl w0), some (.inr (.inl ((f_M_mantissa v4) <<< (Int32.toInt64 w0 &&& 63)))), none, none, none, none, none, none] [.inr (.inl (f_M_mantissa v6))] _ _
  refine X_run 8 (i1 := cond (cn2 .le (v8 - w0) (62 : Int32)) 92 84) (L1 := [none, none, none, none, some (.inr (.inl v4)), none, some (.inr (.inl v6)), none, some (.inl v8), some (.inl w0), some (.inr (.inl ((f_M_mantissa v4) <<< (Int32.toInt64 w0 &&& 63)))), none, some (.inr (.inl (f_M_mantissa v6))), none, some (.inl (v8 - w0)), none, none]) (st1 := []) rfl ?_
  refine X_brq (fun hb83 => ?_) (fun hb83 => ?_)
  · refine X_run 10 (i1 := cond (cn1 .eq (lg_cmp ((f_M_mantissa v6) &&& (((1 : Int64) <<< (Int32.toInt64 (v8 - w0) &&& 63)) - (1 : Int64))) (0 : Int64))) 104 102) (L1 := [none, none, none, none, some (.inr (.inl v4)), none, some (.inr (.inl v6)), none, some (.inl v8), some (.inl w0), some (.inr (.inl ((f_M_mantissa v4) <<< (Int32.toInt64 w0 &&& 63)))), none, some (.inr (.inl (f_M_mantissa v6))), none, some (.inl (v8 - w0)), none, none]) (st1 := []) rfl ?_
    refine X_brq (fun hb101 => ?_) (fun hb101 => ?_)
    · refine X_run 1 (i1 := 105) (L1 := [none, none, none, none, some (.inr (.inl v4)), none, some (.inr (.inl v6)), none, some (.inl v8), some (.inl w0), some (.inr (.inl ((f_M_mantissa v4) <<< (Int32.toInt64 w0 &&& 63)))), none, some (.inr (.inl (f_M_mantissa v6))), none, some (.inl (v8 - w0)), none, none]) (st1 := [.inl (0 : Int32)]) rfl ?_
      refine X_mask [true, true, true, true, true, true, true, true, false, true, true, true, true, true, true, true, true] ?_
      exact ct_M_added_105 v4 v6 w0 ((f_M_mantissa v4) <<< (Int32.toInt64 w0 &&& 63)) (f_M_mantissa v6) (v8 - w0) (0 : Int32)
    · refine X_run 2 (i1 := 105) (L1 := [none, none, none, none, some (.inr (.inl v4)), none, some (.inr (.inl v6)), none, some (.inl v8), some (.inl w0), some (.inr (.inl ((f_M_mantissa v4) <<< (Int32.toInt64 w0 &&& 63)))), none, some (.inr (.inl (f_M_mantissa v6))), none, some (.inl (v8 - w0)), none, none]) (st1 := [.inl (1 : Int32)]) rfl ?_
      refine X_mask [true, true, true, true, true, true, true, true, false, true, true, true, true, true, true, true, true] ?_
      exact ct_M_added_105 v4 v6 w0 ((f_M_mantissa v4) <<< (Int32.toInt64 w0 &&& 63)) (f_M_mantissa v6) (v8 - w0) (1 : Int32)
  · refine X_run 4 (i1 := cond (cn1 .eq (lg_cmp (f_M_mantissa v6) (0 : Int64))) 90 88) (L1 := [none, none, none, none, some (.inr (.inl v4)), none, some (.inr (.inl v6)), none, some (.inl v8), some (.inl w0), some (.inr (.inl ((f_M_mantissa v4) <<< (Int32.toInt64 w0 &&& 63)))), none, some (.inr (.inl (f_M_mantissa v6))), none, some (.inl (v8 - w0)), none, none]) (st1 := []) rfl ?_
    refine X_brq (fun hb87 => ?_) (fun hb87 => ?_)
    · refine X_run 2 (i1 := 105) (L1 := [none, none, none, none, some (.inr (.inl v4)), none, some (.inr (.inl v6)), none, some (.inl v8), some (.inl w0), some (.inr (.inl ((f_M_mantissa v4) <<< (Int32.toInt64 w0 &&& 63)))), none, some (.inr (.inl (f_M_mantissa v6))), none, some (.inl (v8 - w0)), none, none]) (st1 := [.inl (0 : Int32)]) rfl ?_
      refine X_mask [true, true, true, true, true, true, true, true, false, true, true, true, true, true, true, true, true] ?_
      exact ct_M_added_105 v4 v6 w0 ((f_M_mantissa v4) <<< (Int32.toInt64 w0 &&& 63)) (f_M_mantissa v6) (v8 - w0) (0 : Int32)
    · refine X_run 2 (i1 := 105) (L1 := [none, none, none, none, some (.inr (.inl v4)), none, some (.inr (.inl v6)), none, some (.inl v8), some (.inl w0), some (.inr (.inl ((f_M_mantissa v4) <<< (Int32.toInt64 w0 &&& 63)))), none, some (.inr (.inl (f_M_mantissa v6))), none, some (.inl (v8 - w0)), none, none]) (st1 := [.inl (1 : Int32)]) rfl ?_
      refine X_mask [true, true, true, true, true, true, true, true, false, true, true, true, true, true, true, true, true] ?_
      exact ct_M_added_105 v4 v6 w0 ((f_M_mantissa v4) <<< (Int32.toInt64 w0 &&& 63)) (f_M_mantissa v6) (v8 - w0) (1 : Int32)
def t_M_added_55 (v4 : Int64) (w0 : Int64) : Int64 := (cond (cn2 .ge ((f_M_power v4) - (f_M_power w0)) (9 : Int32)) (t_M_added_68 v4 w0 ((f_M_power v4) - (f_M_power w0)) (9 : Int32)) (t_M_added_68 v4 w0 ((f_M_power v4) - (f_M_power w0)) ((f_M_power v4) - (f_M_power w0))))
theorem ct_M_added_55 {d : Nat} {P : AP} (v4 : Int64) (w0 : Int64) : X m_M_added (d + 3) 55 [none, none, none, none, some (.inr (.inl v4)), none, none, none, none, none, none, none, none, none, none, none, none] [.inr (.inl w0)] P (qL P (t_M_added_55 v4 w0)) := by
  unfold t_M_added_55
  refine X_run 2 (i1 := 57) (L1 := [none, none, none, none, some (.inr (.inl v4)), none, some (.inr (.inl w0)), none, none, none, none, none, none, none, none, none, none]) (st1 := [.inr (.inl v4)]) rfl ?_
  refine X_calls m_M_power (As := [.inr (.inl v4)]) (st := []) ok_M_power rfl rfl rfl (Nat.le_of_ble_eq_true rfl) (Nat.le_of_ble_eq_true rfl) (c_M_power (d := d + 2) v4) ?_
  rintro _ _ ⟨rfl, rfl⟩
  show X _ _ 58 [none, none, none, none, some (.inr (.inl v4)), none, some (.inr (.inl w0)), none, none, none, none, none, none, none, none, none, none] [.inl (f_M_power v4)] _ _
  refine X_run 1 (i1 := 59) (L1 := [none, none, none, none, some (.inr (.inl v4)), none, some (.inr (.inl w0)), none, none, none, none, none, none, none, none, none, none]) (st1 := [.inr (.inl w0), .inl (f_M_power v4)]) rfl ?_
  refine X_calls m_M_power (As := [.inr (.inl w0)]) (st := [.inl (f_M_power v4)]) ok_M_power rfl rfl rfl (Nat.le_of_ble_eq_true rfl) (Nat.le_of_ble_eq_true rfl) (c_M_power (d := d + 2) w0) ?_
  rintro _ _ ⟨rfl, rfl⟩
  show X _ _ 60 [none, none, none, none, some (.inr (.inl v4)), none, some (.inr (.inl w0)), none, none, none, none, none, none, none, none, none, none] [.inl (f_M_power w0), .inl (f_M_power v4)] _ _
  refine X_run 5 (i1 := cond (cn2 .ge ((f_M_power v4) - (f_M_power w0)) (9 : Int32)) 67 65) (L1 := [none, none, none, none, some (.inr (.inl v4)), none, some (.inr (.inl w0)), none, some (.inl ((f_M_power v4) - (f_M_power w0))), none, none, none, none, none, none, none, none]) (st1 := []) rfl ?_
  refine X_brq (fun hb64 => ?_) (fun hb64 => ?_)
  · refine X_run 1 (i1 := 68) (L1 := [none, none, none, none, some (.inr (.inl v4)), none, some (.inr (.inl w0)), none, some (.inl ((f_M_power v4) - (f_M_power w0))), none, none, none, none, none, none, none, none]) (st1 := [.inl (9 : Int32)]) rfl ?_
    exact ct_M_added_68 v4 w0 ((f_M_power v4) - (f_M_power w0)) (9 : Int32)
  · refine X_run 2 (i1 := 68) (L1 := [none, none, none, none, some (.inr (.inl v4)), none, some (.inr (.inl w0)), none, some (.inl ((f_M_power v4) - (f_M_power w0))), none, none, none, none, none, none, none, none]) (st1 := [.inl ((f_M_power v4) - (f_M_power w0))]) rfl ?_
    exact ct_M_added_68 v4 w0 ((f_M_power v4) - (f_M_power w0)) ((f_M_power v4) - (f_M_power w0))
def t_M_added_46 (v0 : Int64) (v2 : Int64) (w0 : Int64) : Int64 := (cond (cn2 .ge (f_M_power v0) (f_M_power v2)) (t_M_added_55 w0 v2) (t_M_added_55 w0 v0))
theorem ct_M_added_46 {d : Nat} {P : AP} (v0 : Int64) (v2 : Int64) (w0 : Int64) : X m_M_added (d + 3) 46 [some (.inr (.inl v0)), none, some (.inr (.inl v2)), none, none, none, none, none, none, none, none, none, none, none, none, none, none] [.inr (.inl w0)] P (qL P (t_M_added_46 v0 v2 w0)) := by
  unfold t_M_added_46
  refine X_run 2 (i1 := 48) (L1 := [some (.inr (.inl v0)), none, some (.inr (.inl v2)), none, some (.inr (.inl w0)), none, none, none, none, none, none, none, none, none, none, none, none]) (st1 := [.inr (.inl v0)]) rfl ?_
  refine X_calls m_M_power (As := [.inr (.inl v0)]) (st := []) ok_M_power rfl rfl rfl (Nat.le_of_ble_eq_true rfl) (Nat.le_of_ble_eq_true rfl) (c_M_power (d := d + 2) v0) ?_
  rintro _ _ ⟨rfl, rfl⟩
  show X _ _ 49 [some (.inr (.inl v0)), none, some (.inr (.inl v2)), none, some (.inr (.inl w0)), none, none, none, none, none, none, none, none, none, none, none, none] [.inl (f_M_power v0)] _ _
  refine X_run 1 (i1 := 50) (L1 := [some (.inr (.inl v0)), none, some (.inr (.inl v2)), none, some (.inr (.inl w0)), none, none, none, none, none, none, none, none, none, none, none, none]) (st1 := [.inr (.inl v2), .inl (f_M_power v0)]) rfl ?_
  refine X_calls m_M_power (As := [.inr (.inl v2)]) (st := [.inl (f_M_power v0)]) ok_M_power rfl rfl rfl (Nat.le_of_ble_eq_true rfl) (Nat.le_of_ble_eq_true rfl) (c_M_power (d := d + 2) v2) ?_
  rintro _ _ ⟨rfl, rfl⟩
  show X _ _ 51 [some (.inr (.inl v0)), none, some (.inr (.inl v2)), none, some (.inr (.inl w0)), none, none, none, none, none, none, none, none, none, none, none, none] [.inl (f_M_power v2), .inl (f_M_power v0)] _ _
  refine X_run 1 (i1 := cond (cn2 .ge (f_M_power v0) (f_M_power v2)) 54 52) (L1 := [some (.inr (.inl v0)), none, some (.inr (.inl v2)), none, some (.inr (.inl w0)), none, none, none, none, none, none, none, none, none, none, none, none]) (st1 := []) rfl ?_
  refine X_brq (fun hb51 => ?_) (fun hb51 => ?_)
  · refine X_run 1 (i1 := 55) (L1 := [some (.inr (.inl v0)), none, some (.inr (.inl v2)), none, some (.inr (.inl w0)), none, none, none, none, none, none, none, none, none, none, none, none]) (st1 := [.inr (.inl v2)]) rfl ?_
    refine X_mask [false, true, false, true, true, true, true, true, true, true, true, true, true, true, true, true, true] ?_
    exact ct_M_added_55 w0 v2
  · refine X_run 2 (i1 := 55) (L1 := [some (.inr (.inl v0)), none, some (.inr (.inl v2)), none, some (.inr (.inl w0)), none, none, none, none, none, none, none, none, none, none, none, none]) (st1 := [.inr (.inl v0)]) rfl ?_
    refine X_mask [false, true, false, true, true, true, true, true, true, true, true, true, true, true, true, true, true] ?_
    exact ct_M_added_55 w0 v0
def t_M_added_38 (v0 : Int64) (v2 : Int64) : Int64 := (cond (cn2 .ge (f_M_power v0) (f_M_power v2)) (t_M_added_46 v0 v2 v0) (t_M_added_46 v0 v2 v2))
theorem ct_M_added_38 {d : Nat} {P : AP} (v0 : Int64) (v2 : Int64) : X m_M_added (d + 3) 38 [some (.inr (.inl v0)), none, some (.inr (.inl v2)), none, none, none, none, none, none, none, none, none, none, none, none, none, none] [] P (qL P (t_M_added_38 v0 v2)) := by
  unfold t_M_added_38
  refine X_run 1 (i1 := 39) (L1 := [some (.inr (.inl v0)), none, some (.inr (.inl v2)), none, none, none, none, none, none, none, none, none, none, none, none, none, none]) (st1 := [.inr (.inl v0)]) rfl ?_
  refine X_calls m_M_power (As := [.inr (.inl v0)]) (st := []) ok_M_power rfl rfl rfl (Nat.le_of_ble_eq_true rfl) (Nat.le_of_ble_eq_true rfl) (c_M_power (d := d + 2) v0) ?_
  rintro _ _ ⟨rfl, rfl⟩
  show X _ _ 40 [some (.inr (.inl v0)), none, some (.inr (.inl v2)), none, none, none, none, none, none, none, none, none, none, none, none, none, none] [.inl (f_M_power v0)] _ _
  refine X_run 1 (i1 := 41) (L1 := [some (.inr (.inl v0)), none, some (.inr (.inl v2)), none, none, none, none, none, none, none, none, none, none, none, none, none, none]) (st1 := [.inr (.inl v2), .inl (f_M_power v0)]) rfl ?_
  refine X_calls m_M_power (As := [.inr (.inl v2)]) (st := [.inl (f_M_power v0)]) ok_M_power rfl rfl rfl (Nat.le_of_ble_eq_true rfl) (Nat.le_of_ble_eq_true rfl) (c_M_power (d := d + 2) v2) ?_
  rintro _ _ ⟨rfl, rfl⟩
  show X _ _ 42 [some (.inr (.inl v0)), none, some (.inr (.inl v2)), none, none, none, none, none, none, none, none, none, none, none, none, none, none] [.inl (f_M_power v2), .inl (f_M_power v0)] _ _
  refine X_run 1 (i1 := cond (cn2 .ge (f_M_power v0) (f_M_power v2)) 45 43) (L1 := [some (.inr (.inl v0)), none, some (.inr (.inl v2)), none, none, none, none, none, none, none, none, none, none, none, none, none, none]) (st1 := []) rfl ?_
  refine X_brq (fun hb42 => ?_) (fun hb42 => ?_)
  · refine X_run 1 (i1 := 46) (L1 := [some (.inr (.inl v0)), none, some (.inr (.inl v2)), none, none, none, none, none, none, none, none, none, none, none, none, none, none]) (st1 := [.inr (.inl v0)]) rfl ?_
    exact ct_M_added_46 v0 v2 v0
  · refine X_run 2 (i1 := 46) (L1 := [some (.inr (.inl v0)), none, some (.inr (.inl v2)), none, none, none, none, none, none, none, none, none, none, none, none, none, none]) (st1 := [.inr (.inl v2)]) rfl ?_
    exact ct_M_added_46 v0 v2 v2
def t_M_added_18 (v0 : Int64) (v2 : Int64) : Int64 := (cond (cn1 .eq (b2i (f_M_isInfinite v0))) (cond (cn1 .eq (b2i (f_M_isInfinite v2))) (cond (cn1 .eq (b2i (f_M_isZero v0))) (t_M_added_38 v0 v2) (cond (cn1 .eq (b2i (f_M_isZero v2))) (t_M_added_38 v0 v2) (v0 &&& v2))) v2) v0)
theorem ct_M_added_18 {d : Nat} {P : AP} (v0 : Int64) (v2 : Int64) : X m_M_added (d + 3) 18 [some (.inr (.inl v0)), none, some (.inr (.inl v2)), none, none, none, none, none, none, none, none, none, none, none, none, none, none] [] P (qL P (t_M_added_18 v0 v2)) := by
  unfold t_M_added_18
  refine X_run 1 (i1 := 19) (L1 := [some (.inr (.inl v0)), none, some (.inr (.inl v2)), none, none, none, none, none, none, none, none, none, none, none, none, none, none]) (st1 := [.inr (.inl v0)]) rfl ?_
  refine X_calls m_M_isInfinite (As := [.inr (.inl v0)]) (st := []) ok_M_isInfinite rfl rfl rfl (Nat.le_of_ble_eq_true rfl) (Nat.le_of_ble_eq_true rfl) (c_M_isInfinite (d := d + 2) v0) ?_
  rintro _ _ ⟨rfl, rfl⟩
  show X _ _ 20 [some (.inr (.inl v0)), none, some (.inr (.inl v2)), none, none, none, none, none, none, none, none, none, none, none, none, none, none] [.inl (b2i (f_M_isInfinite v0))] _ _
  refine X_run 1 (i1 := cond (cn1 .eq (b2i (f_M_isInfinite v0))) 23 21) (L1 := [some (.inr (.inl v0)), none, some (.inr (.inl v2)), none, none, none, none, none, none, none, none, none, none, none, none, none, none]) (st1 := []) rfl ?_
  refine X_brq (fun hb20 => ?_) (fun hb20 => ?_)
  · refine X_run 1 (i1 := 24) (L1 := [some (.inr (.inl v0)), none, some (.inr (.inl v2)), none, none, none, none, none, none, none, none, none, none, none, none, none, none]) (st1 := [.inr (.inl v2)]) rfl ?_
    refine X_calls m_M_isInfinite (As := [.inr (.inl v2)]) (st := []) ok_M_isInfinite rfl rfl rfl (Nat.le_of_ble_eq_true rfl) (Nat.le_of_ble_eq_true rfl) (c_M_isInfinite (d := d + 2) v2) ?_
    rintro _ _ ⟨rfl, rfl⟩
    show X _ _ 25 [some (.inr (.inl v0)), none, some (.inr (.inl v2)), none, none, none, none, none, none, none, none, none, none, none, none, none, none] [.inl (b2i (f_M_isInfinite v2))] _ _
    refine X_run 1 (i1 := cond (cn1 .eq (b2i (f_M_isInfinite v2))) 28 26) (L1 := [some (.inr (.inl v0)), none, some (.inr (.inl v2)), none, none, none, none, none, none, none, none, none, none, none, none, none, none]) (st1 := []) rfl ?_
    refine X_brq (fun hb25 => ?_) (fun hb25 => ?_)
    · refine X_run 1 (i1 := 29) (L1 := [some (.inr (.inl v0)), none, some (.inr (.inl v2)), none, none, none, none, none, none, none, none, none, none, none, none, none, none]) (st1 := [.inr (.inl v0)]) rfl ?_
      refine X_calls m_M_isZero (As := [.inr (.inl v0)]) (st := []) ok_M_isZero rfl rfl rfl (Nat.le_of_ble_eq_true rfl) (Nat.le_of_ble_eq_true rfl) (c_M_isZero (d := d + 2) v0) ?_
      rintro _ _ ⟨rfl, rfl⟩
      show X _ _ 30 [some (.inr (.inl v0)), none, some (.inr (.inl v2)), none, none, none, none, none, none, none, none, none, none, none, none, none, none] [.inl (b2i (f_M_isZero v0))] _ _
      refine X_run 1 (i1 := cond (cn1 .eq (b2i (f_M_isZero v0))) 38 31) (L1 := [some (.inr (.inl v0)), none, some (.inr (.inl v2)), none, none, none, none, none, none, none, none, none, none, none, none, none, none]) (st1 := []) rfl ?_
      refine X_brq (fun hb30 => ?_) (fun hb30 => ?_)
      · exact ct_M_added_38 v0 v2
      · refine X_run 1 (i1 := 32) (L1 := [some (.inr (.inl v0)), none, some (.inr (.inl v2)), none, none, none, none, none, none, none, none, none, none, none, none, none, none]) (st1 := [.inr (.inl v2)]) rfl ?_
        refine X_calls m_M_isZero (As := [.inr (.inl v2)]) (st := []) ok_M_isZero rfl rfl rfl (Nat.le_of_ble_eq_true rfl) (Nat.le_of_ble_eq_true rfl) (c_M_isZero (d := d + 2) v2) ?_
        rintro _ _ ⟨rfl, rfl⟩
        show X _ _ 33 [some (.inr (.inl v0)), none, some (.inr (.inl v2)), none, none, none, none, none, none, none, none, none, none, none, none, none, none] [.inl (b2i (f_M_isZero v2))] _ _
        refine X_run 1 (i1 := cond (cn1 .eq (b2i (f_M_isZero v2))) 38 34) (L1 := [some (.inr (.inl v0)), none, some (.inr (.inl v2)), none, none, none, none, none, none, none, none, none, none, none, none, none, none]) (st1 := []) rfl ?_
        refine X_brq (fun hb33 => ?_) (fun hb33 => ?_)
        · exact ct_M_added_38 v0 v2
        · refine X_run 3 (i1 := 37) (L1 := [some (.inr (.inl v0)), none, some (.inr (.inl v2)), none, none, none, none, none, none, none, none, none, none, none, none, none, none]) (st1 := [.inr (.inl (v0 &&& v2))]) rfl ?_
          exact X_lret rfl rfl ⟨rfl, rfl⟩
    · refine X_run 1 (i1 := 27) (L1 := [some (.inr (.inl v0)), none, some (.inr (.inl v2)), none, none, none, none, none, none, none, none, none, none, none, none, none, none]) (st1 := [.inr (.inl v2)]) rfl ?_
      exact X_lret rfl rfl ⟨rfl, rfl⟩
  · refine X_run 1 (i1 := 22) (L1 := [some (.inr (.inl v0)), none, some (.inr (.inl v2)), none, none, none, none, none, none, none, none, none, none, none, none, none, none]) (st1 := [.inr (.inl v0)]) rfl ?_
    exact X_lret rfl rfl ⟨rfl, rfl⟩
def f_M_added (a0 : Int64) (a1 : Int64) : Int64 := (cond (cn1 .ne (b2i (f_M_isNo a0))) (9221120237041090560 : Int64) (cond (cn1 .ne (b2i (f_M_isNo a1))) (9221120237041090560 : Int64) (cond (cn1 .eq (b2i (f_M_isInfinite a0))) (t_M_added_18 a0 a1) (cond (cn1 .eq (b2i (f_M_isInfinite a1))) (t_M_added_18 a0 a1) (cond (cn1 .eq (lg_cmp a0 a1)) (t_M_added_18 a0 a1) (9221120237041090560 : Int64))))))
theorem c_M_added {d : Nat} {P : AP} (a0 : Int64) (a1 : Int64) : X m_M_added (d + 3) 0 (entL 17 [.inr (.inl a0), .inr (.inl a1)]) [] P (qL P (f_M_added a0 a1)) := by
  unfold f_M_added
  refine X_run 1 (i1 := 1) (L1 := [some (.inr (.inl a0)), none, some (.inr (.inl a1)), none, none, none, none, none, none, none, none, none, none, none, none, none, none]) (st1 := [.inr (.inl a0)]) rfl ?_
  refine X_calls m_M_isNo (As := [.inr (.inl a0)]) (st := []) ok_M_isNo rfl rfl rfl (Nat.le_of_ble_eq_true rfl) (Nat.le_of_ble_eq_true rfl) (c_M_isNo (d := d + 2) a0) ?_
  rintro _ _ ⟨rfl, rfl⟩
  show X _ _ 2 [some (.inr (.inl a0)), none, some (.inr (.inl a1)), none, none, none, none, none, none, none, none, none, none, none, none, none, none] [.inl (b2i (f_M_isNo a0))] _ _
  refine X_run 1 (i1 := cond (cn1 .ne (b2i (f_M_isNo a0))) 16 3) (L1 := [some (.inr (.inl a0)), none, some (.inr (.inl a1)), none, none, none, none, none, none, none, none, none, none, none, none, none, none]) (st1 := []) rfl ?_
  refine X_brq (fun hb2 => ?_) (fun hb2 => ?_)
  · refine X_run 1 (i1 := 17) (L1 := [some (.inr (.inl a0)), none, some (.inr (.inl a1)), none, none, none, none, none, none, none, none, none, none, none, none, none, none]) (st1 := [.inr (.inl (9221120237041090560 : Int64))]) rfl ?_
    exact X_lret rfl rfl ⟨rfl, rfl⟩
  · refine X_run 1 (i1 := 4) (L1 := [some (.inr (.inl a0)), none, some (.inr (.inl a1)), none, none, none, none, none, none, none, none, none, none, none, none, none, none]) (st1 := [.inr (.inl a1)]) rfl ?_
    refine X_calls m_M_isNo (As := [.inr (.inl a1)]) (st := []) ok_M_isNo rfl rfl rfl (Nat.le_of_ble_eq_true rfl) (Nat.le_of_ble_eq_true rfl) (c_M_isNo (d := d + 2) a1) ?_
    rintro _ _ ⟨rfl, rfl⟩
    show X _ _ 5 [some (.inr (.inl a0)), none, some (.inr (.inl a1)), none, none, none, none, none, none, none, none, none, none, none, none, none, none] [.inl (b2i (f_M_isNo a1))] _ _
    refine X_run 1 (i1 := cond (cn1 .ne (b2i (f_M_isNo a1))) 16 6) (L1 := [some (.inr (.inl a0)), none, some (.inr (.inl a1)), none, none, none, none, none, none, none, none, none, none, none, none, none, none]) (st1 := []) rfl ?_
    refine X_brq (fun hb5 => ?_) (fun hb5 => ?_)
    · refine X_run 1 (i1 := 17) (L1 := [some (.inr (.inl a0)), none, some (.inr (.inl a1)), none, none, none, none, none, none, none, none, none, none, none, none, none, none]) (st1 := [.inr (.inl (9221120237041090560 : Int64))]) rfl ?_
      exact X_lret rfl rfl ⟨rfl, rfl⟩
    · refine X_run 1 (i1 := 7) (L1 := [some (.inr (.inl a0)), none, some (.inr (.inl a1)), none, none, none, none, none, none, none, none, none, none, none, none, none, none]) (st1 := [.inr (.inl a0)]) rfl ?_
      refine X_calls m_M_isInfinite (As := [.inr (.inl a0)]) (st := []) ok_M_isInfinite rfl rfl rfl (Nat.le_of_ble_eq_true rfl) (Nat.le_of_ble_eq_true rfl) (c_M_isInfinite (d := d + 2) a0) ?_
      rintro _ _ ⟨rfl, rfl⟩
      show X _ _ 8 [some (.inr (.inl a0)), none, some (.inr (.inl a1)), none, none, none, none, none, none, none, none, none, none, none, none, none, none] [.inl (b2i (f_M_isInfinite a0))] _ _
      refine X_run 1 (i1 := cond (cn1 .eq (b2i (f_M_isInfinite a0))) 18 9) (L1 := [some (.inr (.inl a0)), none, some (.inr (.inl a1)), none, none, none, none, none, none, none, none, none, none, none, none, none, none]) (st1 := []) rfl ?_
      refine X_brq (fun hb8 => ?_) (fun hb8 => ?_)
      · exact ct_M_added_18 a0 a1
      · refine X_run 1 (i1 := 10) (L1 := [some (.inr (.inl a0)), none, some (.inr (.inl a1)), none, none, none, none, none, none, none, none, none, none, none, none, none, none]) (st1 := [.inr (.inl a1)]) rfl ?_
        refine X_calls m_M_isInfinite (As := [.inr (.inl a1)]) (st := []) ok_M_isInfinite rfl rfl rfl (Nat.le_of_ble_eq_true rfl) (Nat.le_of_ble_eq_true rfl) (c_M_isInfinite (d := d + 2) a1) ?_
        rintro _ _ ⟨rfl, rfl⟩
        show X _ _ 11 [some (.inr (.inl a0)), none, some (.inr (.inl a1)), none, none, none, none, none, none, none, none, none, none, none, none, none, none] [.inl (b2i (f_M_isInfinite a1))] _ _
        refine X_run 1 (i1 := cond (cn1 .eq (b2i (f_M_isInfinite a1))) 18 12) (L1 := [some (.inr (.inl a0)), none, some (.inr (.inl a1)), none, none, none, none, none, none, none, none, none, none, none, none, none, none]) (st1 := []) rfl ?_
        refine X_brq (fun hb11 => ?_) (fun hb11 => ?_)
        · exact ct_M_added_18 a0 a1
        · refine X_run 4 (i1 := cond (cn1 .eq (lg_cmp a0 a1)) 18 16) (L1 := [some (.inr (.inl a0)), none, some (.inr (.inl a1)), none, none, none, none, none, none, none, none, none, none, none, none, none, none]) (st1 := []) rfl ?_
          refine X_brq (fun hb15 => ?_) (fun hb15 => ?_)
          · exact ct_M_added_18 a0 a1
          · refine X_run 1 (i1 := 17) (L1 := [some (.inr (.inl a0)), none, some (.inr (.inl a1)), none, none, none, none, none, none, none, none, none, none, none, none, none, none]) (st1 := [.inr (.inl (9221120237041090560 : Int64))]) rfl ?_
            exact X_lret rfl rfl ⟨rfl, rfl⟩
def t_M_times_164 (v4 : Int32) (v9 : Int32) (v16 : Int64) (v18 : Int64) (w0 : Int32) : Int64 := (f_M_signed v4 ((v16 <<< (Int32.toInt64 (8 : Int32) &&& 63)) ||| ((Int64.toUInt64 v18 >>> (Int64.toUInt64 (Int32.toInt64 (19 : Int32)) &&& Int64.toUInt64 63)).toInt64)) (v9 + (46 : Int32)) w0)
theorem ct_M_times_164 {d : Nat} {P : AP} (v4 : Int32) (v9 : Int32) (v16 : Int64) (v18 : Int64) (w0 : Int32) : X m_M_times (d + 3) 164 [none, none, none, none, some (.inl v4), none, none, none, none, some (.inl v9), none, none, none, none, none, none, some (.inr (.inl v16)), none, some (.inr (.inl v18)), none, none] [.inl w0] P (qL P (t_M_times_164 v4 v9 v16 v18 w0)) := by
  unfold t_M_times_164
  refine X_run 13 (i1 := 177) (L1 := [none, none, none, none, some (.inl v4), none, none, none, none, some (.inl v9), none, none, none, none, none, none, some (.inr (.inl v16)), none, some (.inr (.inl v18)), none, some (.inl w0)]) (st1 := [.inl w0, .inl (v9 + (46 : Int32)), .inr (.inl ((v16 <<< (Int32.toInt64 (8 : Int32) &&& 63)) ||| ((Int64.toUInt64 v18 >>> (Int64.toUInt64 (Int32.toInt64 (19 : Int32)) &&& Int64.toUInt64 63)).toInt64))), .inl v4]) rfl ?_
  refine X_calls m_M_signed (As := [.inl v4, .inr (.inl ((v16 <<< (Int32.toInt64 (8 : Int32) &&& 63)) ||| ((Int64.toUInt64 v18 >>> (Int64.toUInt64 (Int32.toInt64 (19 : Int32)) &&& Int64.toUInt64 63)).toInt64))), .inl (v9 + (46 : Int32)), .inl w0]) (st := []) ok_M_signed rfl rfl rfl (Nat.le_of_ble_eq_true rfl) (Nat.le_of_ble_eq_true rfl) (c_M_signed (d := d) v4 ((v16 <<< (Int32.toInt64 (8 : Int32) &&& 63)) ||| ((Int64.toUInt64 v18 >>> (Int64.toUInt64 (Int32.toInt64 (19 : Int32)) &&& Int64.toUInt64 63)).toInt64)) (v9 + (46 : Int32)) w0) ?_
  rintro _ _ ⟨rfl, rfl⟩
  show X _ _ 178 [none, none, none, none, some (.inl v4), none, none, none, none, some (.inl v9), none, none, none, none, none, none, some (.inr (.inl v16)), none, some (.inr (.inl v18)), none, some (.inl w0)] [.inr (.inl (f_M_signed v4 ((v16 <<< (Int32.toInt64 (8 : Int32) &&& 63)) ||| ((Int64.toUInt64 v18 >>> (Int64.toUInt64 (Int32.toInt64 (19 : Int32)) &&& Int64.toUInt64 63)).toInt64)) (v9 + (46 : Int32)) w0))] _ _
  exact X_lret rfl rfl ⟨rfl, rfl⟩
def t_M_times_161 (v4 : Int32) (v9 : Int32) (v16 : Int64) (v18 : Int64) : Int64 := (t_M_times_164 v4 v9 v16 v18 (1 : Int32))
theorem ct_M_times_161 {d : Nat} {P : AP} (v4 : Int32) (v9 : Int32) (v16 : Int64) (v18 : Int64) : X m_M_times (d + 3) 161 [none, none, none, none, some (.inl v4), none, none, none, none, some (.inl v9), none, none, none, none, none, none, some (.inr (.inl v16)), none, some (.inr (.inl v18)), none, none] [] P (qL P (t_M_times_161 v4 v9 v16 v18)) := by
  unfold t_M_times_161
  refine X_run 2 (i1 := 164) (L1 := [none, none, none, none, some (.inl v4), none, none, none, none, some (.inl v9), none, none, none, none, none, none, some (.inr (.inl v16)), none, some (.inr (.inl v18)), none, none]) (st1 := [.inl (1 : Int32)]) rfl ?_
  exact ct_M_times_164 v4 v9 v16 v18 (1 : Int32)
def t_M_times_141 (v4 : Int32) (v9 : Int32) (v10 : Int64) (v12 : Int64) (v14 : Int64) (v16 : Int64) : Int64 := (cond (cn1 .ne (lg_cmp ((v14 &&& (v10 - (1 : Int64))) &&& (524287 : Int64)) (0 : Int64))) (t_M_times_161 v4 v9 v16 (v14 &&& (v10 - (1 : Int64)))) (cond (cn1 .eq (lg_cmp (v12 &&& (v10 - (1 : Int64))) (0 : Int64))) (t_M_times_164 v4 v9 v16 (v14 &&& (v10 - (1 : Int64))) (0 : Int32)) (t_M_times_161 v4 v9 v16 (v14 &&& (v10 - (1 : Int64))))))
theorem ct_M_times_141 {d : Nat} {P : AP} (v4 : Int32) (v9 : Int32) (v10 : Int64) (v12 : Int64) (v14 : Int64) (v16 : Int64) : X m_M_times (d + 3) 141 [none, none, none, none, some (.inl v4), none, none, none, none, some (.inl v9), some (.inr (.inl v10)), none, some (.inr (.inl v12)), none, some (.inr (.inl v14)), none, some (.inr (.inl v16)), none, none, none, none] [] P (qL P (t_M_times_141 v4 v9 v10 v12 v14 v16)) := by
  unfold t_M_times_141
  refine X_run 12 (i1 := cond (cn1 .ne (lg_cmp ((v14 &&& (v10 - (1 : Int64))) &&& (524287 : Int64)) (0 : Int64))) 161 153) (L1 := [none, none, none, none, some (.inl v4), none, none, none, none, some (.inl v9), some (.inr (.inl v10)), none, some (.inr (.inl v12)), none, some (.inr (.inl v14)), none, some (.inr (.inl v16)), none, some (.inr (.inl (v14 &&& (v10 - (1 : Int64))))), none, none]) (st1 := []) rfl ?_
  refine X_brq (fun hb152 => ?_) (fun hb152 => ?_)
  · refine X_mask [true, true, true, true, true, true, true, true, true, true, false, true, false, true, false, true, true, true, true, true, true] ?_
    exact ct_M_times_161 v4 v9 v16 (v14 &&& (v10 - (1 : Int64)))
  · refine X_run 8 (i1 := cond (cn1 .eq (lg_cmp (v12 &&& (v10 - (1 : Int64))) (0 : Int64))) 163 161) (L1 := [none, none, none, none, some (.inl v4), none, none, none, none, some (.inl v9), some (.inr (.inl v10)), none, some (.inr (.inl v12)), none, some (.inr (.inl v14)), none, some (.inr (.inl v16)), none, some (.inr (.inl (v14 &&& (v10 - (1 : Int64))))), none, none]) (st1 := []) rfl ?_
    refine X_brq (fun hb160 => ?_) (fun hb160 => ?_)
    · refine X_run 1 (i1 := 164) (L1 := [none, none, none, none, some (.inl v4), none, none, none, none, some (.inl v9), some (.inr (.inl v10)), none, some (.inr (.inl v12)), none, some (.inr (.inl v14)), none, some (.inr (.inl v16)), none, some (.inr (.inl (v14 &&& (v10 - (1 : Int64))))), none, none]) (st1 := [.inl (0 : Int32)]) rfl ?_
      refine X_mask [true, true, true, true, true, true, true, true, true, true, false, true, false, true, false, true, true, true, true, true, true] ?_
      exact ct_M_times_164 v4 v9 v16 (v14 &&& (v10 - (1 : Int64))) (0 : Int32)
    · refine X_mask [true, true, true, true, true, true, true, true, true, true, false, true, false, true, false, true, true, true, true, true, true] ?_
      exact ct_M_times_161 v4 v9 v16 (v14 &&& (v10 - (1 : Int64)))
def t_M_times_129 (v4 : Int32) (v5 : Int64) (v7 : Int64) (v9 : Int32) (v10 : Int64) (v12 : Int64) (v14 : Int64) : Int64 := (t_M_times_141 v4 v9 v10 v12 v14 ((((Int64.toUInt64 v5 >>> (Int64.toUInt64 (Int32.toInt64 (27 : Int32)) &&& Int64.toUInt64 63)).toInt64) * ((Int64.toUInt64 v7 >>> (Int64.toUInt64 (Int32.toInt64 (27 : Int32)) &&& Int64.toUInt64 63)).toInt64)) + ((Int64.toUInt64 v14 >>> (Int64.toUInt64 (Int32.toInt64 (27 : Int32)) &&& Int64.toUInt64 63)).toInt64)))
theorem ct_M_times_129 {d : Nat} {P : AP} (v4 : Int32) (v5 : Int64) (v7 : Int64) (v9 : Int32) (v10 : Int64) (v12 : Int64) (v14 : Int64) : X m_M_times (d + 3) 129 [none, none, none, none, some (.inl v4), some (.inr (.inl v5)), none, some (.inr (.inl v7)), none, some (.inl v9), some (.inr (.inl v10)), none, some (.inr (.inl v12)), none, some (.inr (.inl v14)), none, none, none, none, none, none] [] P (qL P (t_M_times_129 v4 v5 v7 v9 v10 v12 v14)) := by
  unfold t_M_times_129
  refine X_run 12 (i1 := 141) (L1 := [none, none, none, none, some (.inl v4), some (.inr (.inl v5)), none, some (.inr (.inl v7)), none, some (.inl v9), some (.inr (.inl v10)), none, some (.inr (.inl v12)), none, some (.inr (.inl v14)), none, some (.inr (.inl ((((Int64.toUInt64 v5 >>> (Int64.toUInt64 (Int32.toInt64 (27 : Int32)) &&& Int64.toUInt64 63)).toInt64) * ((Int64.toUInt64 v7 >>> (Int64.toUInt64 (Int32.toInt64 (27 : Int32)) &&& Int64.toUInt64 63)).toInt64)) + ((Int64.toUInt64 v14 >>> (Int64.toUInt64 (Int32.toInt64 (27 : Int32)) &&& Int64.toUInt64 63)).toInt64)))), none, none, none, none]) (st1 := []) rfl ?_
  refine X_mask [true, true, true, true, true, false, true, false, true, true, true, true, true, true, true, true, true, true, true, true, true] ?_
  exact ct_M_times_141 v4 v9 v10 v12 v14 ((((Int64.toUInt64 v5 >>> (Int64.toUInt64 (Int32.toInt64 (27 : Int32)) &&& Int64.toUInt64 63)).toInt64) * ((Int64.toUInt64 v7 >>> (Int64.toUInt64 (Int32.toInt64 (27 : Int32)) &&& Int64.toUInt64 63)).toInt64)) + ((Int64.toUInt64 v14 >>> (Int64.toUInt64 (Int32.toInt64 (27 : Int32)) &&& Int64.toUInt64 63)).toInt64))
def t_M_times_81 : Nat → Int32 → Int64 → Int64 → Int32 → Int64
  | 0, _, _, _, _ => 0
  | n + 1, v4, v5, v7, v9 => (cond (cn1 .ge (lg_cmp v7 (4503599627370496 : Int64))) (t_M_times_129 v4 v5 v7 v9 (134217728 : Int64) ((v5 &&& ((134217728 : Int64) - (1 : Int64))) * (v7 &&& ((134217728 : Int64) - (1 : Int64)))) (((((Int64.toUInt64 v5 >>> (Int64.toUInt64 (Int32.toInt64 (27 : Int32)) &&& Int64.toUInt64 63)).toInt64) * (v7 &&& ((134217728 : Int64) - (1 : Int64)))) + ((v5 &&& ((134217728 : Int64) - (1 : Int64))) * ((Int64.toUInt64 v7 >>> (Int64.toUInt64 (Int32.toInt64 (27 : Int32)) &&& Int64.toUInt64 63)).toInt64))) + ((Int64.toUInt64 ((v5 &&& ((134217728 : Int64) - (1 : Int64))) * (v7 &&& ((134217728 : Int64) - (1 : Int64)))) >>> (Int64.toUInt64 (Int32.toInt64 (27 : Int32)) &&& Int64.toUInt64 63)).toInt64))) (t_M_times_81 n v4 v5 (v7 <<< (Int32.toInt64 (1 : Int32) &&& 63)) (v9 + Int32.ofInt (-1))))
theorem ct_M_times_81 {d : Nat} {P : AP} : ∀ (n : Nat) (v4 : Int32) (v5 : Int64) (v7 : Int64) (v9 : Int32), NZ n v7 → X m_M_times (d + 3) 81 [none, none, none, none, some (.inl v4), some (.inr (.inl v5)), none, some (.inr (.inl v7)), none, some (.inl v9), none, none, none, none, none, none, none, none, none, none, none] [] P (qL P (t_M_times_81 n v4 v5 v7 v9))
  | 0, v4, v5, v7, v9, hI => by exact hI.no.elim
  | n + 1, v4, v5, v7, v9, hI => by
    have ih := @ct_M_times_81 d P n
    unfold t_M_times_81
    refine X_run 4 (i1 := cond (cn1 .ge (lg_cmp v7 (4503599627370496 : Int64))) 91 85) (L1 := [none, none, none, none, some (.inl v4), some (.inr (.inl v5)), none, some (.inr (.inl v7)), none, some (.inl v9), none, none, none, none, none, none, none, none, none, none, none]) (st1 := []) rfl ?_
    refine X_brq (fun hb84 => ?_) (fun hb84 => ?_)
    · refine X_run 38 (i1 := 129) (L1 := [none, none, none, none, some (.inl v4), some (.inr (.inl v5)), none, some (.inr (.inl v7)), none, some (.inl v9), some (.inr (.inl (134217728 : Int64))), none, some (.inr (.inl ((v5 &&& ((134217728 : Int64) - (1 : Int64))) * (v7 &&& ((134217728 : Int64) - (1 : Int64)))))), none, some (.inr (.inl (((((Int64.toUInt64 v5 >>> (Int64.toUInt64 (Int32.toInt64 (27 : Int32)) &&& Int64.toUInt64 63)).toInt64) * (v7 &&& ((134217728 : Int64) - (1 : Int64)))) + ((v5 &&& ((134217728 : Int64) - (1 : Int64))) * ((Int64.toUInt64 v7 >>> (Int64.toUInt64 (Int32.toInt64 (27 : Int32)) &&& Int64.toUInt64 63)).toInt64))) + ((Int64.toUInt64 ((v5 &&& ((134217728 : Int64) - (1 : Int64))) * (v7 &&& ((134217728 : Int64) - (1 : Int64)))) >>> (Int64.toUInt64 (Int32.toInt64 (27 : Int32)) &&& Int64.toUInt64 63)).toInt64)))), none, none, none, none, none, none]) (st1 := []) rfl ?_
      exact ct_M_times_129 v4 v5 v7 v9 (134217728 : Int64) ((v5 &&& ((134217728 : Int64) - (1 : Int64))) * (v7 &&& ((134217728 : Int64) - (1 : Int64)))) (((((Int64.toUInt64 v5 >>> (Int64.toUInt64 (Int32.toInt64 (27 : Int32)) &&& Int64.toUInt64 63)).toInt64) * (v7 &&& ((134217728 : Int64) - (1 : Int64)))) + ((v5 &&& ((134217728 : Int64) - (1 : Int64))) * ((Int64.toUInt64 v7 >>> (Int64.toUInt64 (Int32.toInt64 (27 : Int32)) &&& Int64.toUInt64 63)).toInt64))) + ((Int64.toUInt64 ((v5 &&& ((134217728 : Int64) - (1 : Int64))) * (v7 &&& ((134217728 : Int64) - (1 : Int64)))) >>> (Int64.toUInt64 (Int32.toInt64 (27 : Int32)) &&& Int64.toUInt64 63)).toInt64))
    · refine X_run 6 (i1 := 81) (L1 := [none, none, none, none, some (.inl v4), some (.inr (.inl v5)), none, some (.inr (.inl (v7 <<< (Int32.toInt64 (1 : Int32) &&& 63)))), none, some (.inl (v9 + Int32.ofInt (-1))), none, none, none, none, none, none, none, none, none, none, none]) (st1 := []) rfl ?_
      exact ih v4 v5 (v7 <<< (Int32.toInt64 (1 : Int32) &&& 63)) (v9 + Int32.ofInt (-1)) (by exact hI.up hb84)
def t_M_times_71 : Nat → Int32 → Int64 → Int64 → Int32 → Int64
  | 0, _, _, _, _ => 0
  | n + 1, v4, v5, v7, v9 => (cond (cn1 .ge (lg_cmp v5 (4503599627370496 : Int64))) (t_M_times_81 53 v4 v5 v7 v9) (t_M_times_71 n v4 (v5 <<< (Int32.toInt64 (1 : Int32) &&& 63)) v7 (v9 + Int32.ofInt (-1))))
theorem ct_M_times_71 {d : Nat} {P : AP} : ∀ (n : Nat) (v4 : Int32) (v5 : Int64) (v7 : Int64) (v9 : Int32), NZ n v5 ∧ NZ 53 v7 → X m_M_times (d + 3) 71 [none, none, none, none, some (.inl v4), some (.inr (.inl v5)), none, some (.inr (.inl v7)), none, some (.inl v9), none, none, none, none, none, none, none, none, none, none, none] [] P (qL P (t_M_times_71 n v4 v5 v7 v9))
  | 0, v4, v5, v7, v9, hI => by exact hI.1.no.elim
  | n + 1, v4, v5, v7, v9, hI => by
    have ih := @ct_M_times_71 d P n
    unfold t_M_times_71
    refine X_run 4 (i1 := cond (cn1 .ge (lg_cmp v5 (4503599627370496 : Int64))) 81 75) (L1 := [none, none, none, none, some (.inl v4), some (.inr (.inl v5)), none, some (.inr (.inl v7)), none, some (.inl v9), none, none, none, none, none, none, none, none, none, none, none]) (st1 := []) rfl ?_
    refine X_brq (fun hb74 => ?_) (fun hb74 => ?_)
    · exact ct_M_times_81 53 v4 v5 v7 v9 (by exact hI.2)
    · refine X_run 6 (i1 := 71) (L1 := [none, none, none, none, some (.inl v4), some (.inr (.inl (v5 <<< (Int32.toInt64 (1 : Int32) &&& 63)))), none, some (.inr (.inl v7)), none, some (.inl (v9 + Int32.ofInt (-1))), none, none, none, none, none, none, none, none, none, none, none]) (st1 := []) rfl ?_
      exact ih v4 (v5 <<< (Int32.toInt64 (1 : Int32) &&& 63)) v7 (v9 + Int32.ofInt (-1)) (by exact ⟨hI.1.up hb74, hI.2⟩)
def t_M_times_53 (v4 : Int32) : Int64 := (cond (cn1 .eq v4) (0 : Int64) (-9223372036854775808 : Int64))
theorem ct_M_times_53 {d : Nat} {P : AP} (v4 : Int32) : X m_M_times (d + 3) 53 [none, none, none, none, some (.inl v4), none, none, none, none, none, none, none, none, none, none, none, none, none, none, none, none] [] P (qL P (t_M_times_53 v4)) := by
  unfold t_M_times_53
  refine X_run 2 (i1 := cond (cn1 .eq v4) 57 55) (L1 := [none, none, none, none, some (.inl v4), none, none, none, none, none, none, none, none, none, none, none, none, none, none, none, none]) (st1 := []) rfl ?_
  refine X_brq (fun hb54 => ?_) (fun hb54 => ?_)
  · refine X_run 1 (i1 := 58) (L1 := [none, none, none, none, some (.inl v4), none, none, none, none, none, none, none, none, none, none, none, none, none, none, none, none]) (st1 := [.inr (.inl (0 : Int64))]) rfl ?_
    exact X_lret rfl rfl ⟨rfl, rfl⟩
  · refine X_run 2 (i1 := 58) (L1 := [none, none, none, none, some (.inl v4), none, none, none, none, none, none, none, none, none, none, none, none, none, none, none, none]) (st1 := [.inr (.inl (-9223372036854775808 : Int64))]) rfl ?_
    exact X_lret rfl rfl ⟨rfl, rfl⟩
def t_M_times_33 (v0 : Int64) (v2 : Int64) (v4 : Int32) : Int64 := (cond (cn1 .ne (b2i (f_M_isZero v0))) (9221120237041090560 : Int64) (cond (cn1 .eq (b2i (f_M_isZero v2))) (cond (cn1 .eq v4) (9218868437227405312 : Int64) (-4503599627370496 : Int64)) (9221120237041090560 : Int64)))
theorem ct_M_times_33 {d : Nat} {P : AP} (v0 : Int64) (v2 : Int64) (v4 : Int32) : X m_M_times (d + 3) 33 [some (.inr (.inl v0)), none, some (.inr (.inl v2)), none, some (.inl v4), none, none, none, none, none, none, none, none, none, none, none, none, none, none, none, none] [] P (qL P (t_M_times_33 v0 v2 v4)) := by
  unfold t_M_times_33
  refine X_run 1 (i1 := 34) (L1 := [some (.inr (.inl v0)), none, some (.inr (.inl v2)), none, some (.inl v4), none, none, none, none, none, none, none, none, none, none, none, none, none, none, none, none]) (st1 := [.inr (.inl v0)]) rfl ?_
  refine X_calls m_M_isZero (As := [.inr (.inl v0)]) (st := []) ok_M_isZero rfl rfl rfl (Nat.le_of_ble_eq_true rfl) (Nat.le_of_ble_eq_true rfl) (c_M_isZero (d := d + 2) v0) ?_
  rintro _ _ ⟨rfl, rfl⟩
  show X _ _ 35 [some (.inr (.inl v0)), none, some (.inr (.inl v2)), none, some (.inl v4), none, none, none, none, none, none, none, none, none, none, none, none, none, none, none, none] [.inl (b2i (f_M_isZero v0))] _ _
  refine X_run 1 (i1 := cond (cn1 .ne (b2i (f_M_isZero v0))) 39 36) (L1 := [some (.inr (.inl v0)), none, some (.inr (.inl v2)), none, some (.inl v4), none, none, none, none, none, none, none, none, none, none, none, none, none, none, none, none]) (st1 := []) rfl ?_
  refine X_brq (fun hb35 => ?_) (fun hb35 => ?_)
  · refine X_run 2 (i1 := 46) (L1 := [some (.inr (.inl v0)), none, some (.inr (.inl v2)), none, some (.inl v4), none, none, none, none, none, none, none, none, none, none, none, none, none, none, none, none]) (st1 := [.inr (.inl (9221120237041090560 : Int64))]) rfl ?_
    exact X_lret rfl rfl ⟨rfl, rfl⟩
  · refine X_run 1 (i1 := 37) (L1 := [some (.inr (.inl v0)), none, some (.inr (.inl v2)), none, some (.inl v4), none, none, none, none, none, none, none, none, none, none, none, none, none, none, none, none]) (st1 := [.inr (.inl v2)]) rfl ?_
    refine X_calls m_M_isZero (As := [.inr (.inl v2)]) (st := []) ok_M_isZero rfl rfl rfl (Nat.le_of_ble_eq_true rfl) (Nat.le_of_ble_eq_true rfl) (c_M_isZero (d := d + 2) v2) ?_
    rintro _ _ ⟨rfl, rfl⟩
    show X _ _ 38 [some (.inr (.inl v0)), none, some (.inr (.inl v2)), none, some (.inl v4), none, none, none, none, none, none, none, none, none, none, none, none, none, none, none, none] [.inl (b2i (f_M_isZero v2))] _ _
    refine X_run 1 (i1 := cond (cn1 .eq (b2i (f_M_isZero v2))) 41 39) (L1 := [some (.inr (.inl v0)), none, some (.inr (.inl v2)), none, some (.inl v4), none, none, none, none, none, none, none, none, none, none, none, none, none, none, none, none]) (st1 := []) rfl ?_
    refine X_brq (fun hb38 => ?_) (fun hb38 => ?_)
    · refine X_run 2 (i1 := cond (cn1 .eq v4) 45 43) (L1 := [some (.inr (.inl v0)), none, some (.inr (.inl v2)), none, some (.inl v4), none, none, none, none, none, none, none, none, none, none, none, none, none, none, none, none]) (st1 := []) rfl ?_
      refine X_brq (fun hb42 => ?_) (fun hb42 => ?_)
      · refine X_run 1 (i1 := 46) (L1 := [some (.inr (.inl v0)), none, some (.inr (.inl v2)), none, some (.inl v4), none, none, none, none, none, none, none, none, none, none, none, none, none, none, none, none]) (st1 := [.inr (.inl (9218868437227405312 : Int64))]) rfl ?_
        exact X_lret rfl rfl ⟨rfl, rfl⟩
      · refine X_run 2 (i1 := 46) (L1 := [some (.inr (.inl v0)), none, some (.inr (.inl v2)), none, some (.inl v4), none, none, none, none, none, none, none, none, none, none, none, none, none, none, none, none]) (st1 := [.inr (.inl (-4503599627370496 : Int64))]) rfl ?_
        exact X_lret rfl rfl ⟨rfl, rfl⟩
    · refine X_run 2 (i1 := 46) (L1 := [some (.inr (.inl v0)), none, some (.inr (.inl v2)), none, some (.inl v4), none, none, none, none, none, none, none, none, none, none, none, none, none, none, none, none]) (st1 := [.inr (.inl (9221120237041090560 : Int64))]) rfl ?_
      exact X_lret rfl rfl ⟨rfl, rfl⟩
def t_M_times_26 (v0 : Int64) (v2 : Int64) (w0 : Int32) : Int64 := (cond (cn1 .ne (b2i (f_M_isInfinite v0))) (t_M_times_33 v0 v2 w0) (cond (cn1 .eq (b2i (f_M_isInfinite v2))) (cond (cn1 .ne (b2i (f_M_isZero v0))) (t_M_times_53 w0) (cond (cn1 .eq (b2i (f_M_isZero v2))) (t_M_times_71 53 w0 (f_M_mantissa v0) (f_M_mantissa v2) ((f_M_power v0) + (f_M_power v2))) (t_M_times_53 w0))) (t_M_times_33 v0 v2 w0)))
theorem ct_M_times_26 {d : Nat} {P : AP} (v0 : Int64) (v2 : Int64) (w0 : Int32) : X m_M_times (d + 3) 26 [some (.inr (.inl v0)), none, some (.inr (.inl v2)), none, none, none, none, none, none, none, none, none, none, none, none, none, none, none, none, none, none] [.inl w0] P (qL P (t_M_times_26 v0 v2 w0)) := by
  unfold t_M_times_26
  refine X_run 2 (i1 := 28) (L1 := [some (.inr (.inl v0)), none, some (.inr (.inl v2)), none, some (.inl w0), none, none, none, none, none, none, none, none, none, none, none, none, none, none, none, none]) (st1 := [.inr (.inl v0)]) rfl ?_
  refine X_calls m_M_isInfinite (As := [.inr (.inl v0)]) (st := []) ok_M_isInfinite rfl rfl rfl (Nat.le_of_ble_eq_true rfl) (Nat.le_of_ble_eq_true rfl) (c_M_isInfinite (d := d + 2) v0) ?_
  rintro _ _ ⟨rfl, rfl⟩
  show X _ _ 29 [some (.inr (.inl v0)), none, some (.inr (.inl v2)), none, some (.inl w0), none, none, none, none, none, none, none, none, none, none, none, none, none, none, none, none] [.inl (b2i (f_M_isInfinite v0))] _ _
  refine X_run 1 (i1 := cond (cn1 .ne (b2i (f_M_isInfinite v0))) 33 30) (L1 := [some (.inr (.inl v0)), none, some (.inr (.inl v2)), none, some (.inl w0), none, none, none, none, none, none, none, none, none, none, none, none, none, none, none, none]) (st1 := []) rfl ?_
  refine X_brq (fun hb29 => ?_) (fun hb29 => ?_)
  · exact ct_M_times_33 v0 v2 w0
  · refine X_run 1 (i1 := 31) (L1 := [some (.inr (.inl v0)), none, some (.inr (.inl v2)), none, some (.inl w0), none, none, none, none, none, none, none, none, none, none, none, none, none, none, none, none]) (st1 := [.inr (.inl v2)]) rfl ?_
    refine X_calls m_M_isInfinite (As := [.inr (.inl v2)]) (st := []) ok_M_isInfinite rfl rfl rfl (Nat.le_of_ble_eq_true rfl) (Nat.le_of_ble_eq_true rfl) (c_M_isInfinite (d := d + 2) v2) ?_
    rintro _ _ ⟨rfl, rfl⟩
    show X _ _ 32 [some (.inr (.inl v0)), none, some (.inr (.inl v2)), none, some (.inl w0), none, none, none, none, none, none, none, none, none, none, none, none, none, none, none, none] [.inl (b2i (f_M_isInfinite v2))] _ _
    refine X_run 1 (i1 := cond (cn1 .eq (b2i (f_M_isInfinite v2))) 47 33) (L1 := [some (.inr (.inl v0)), none, some (.inr (.inl v2)), none, some (.inl w0), none, none, none, none, none, none, none, none, none, none, none, none, none, none, none, none]) (st1 := []) rfl ?_
    refine X_brq (fun hb32 => ?_) (fun hb32 => ?_)
    · refine X_run 1 (i1 := 48) (L1 := [some (.inr (.inl v0)), none, some (.inr (.inl v2)), none, some (.inl w0), none, none, none, none, none, none, none, none, none, none, none, none, none, none, none, none]) (st1 := [.inr (.inl v0)]) rfl ?_
      refine X_calls m_M_isZero (As := [.inr (.inl v0)]) (st := []) ok_M_isZero rfl rfl rfl (Nat.le_of_ble_eq_true rfl) (Nat.le_of_ble_eq_true rfl) (c_M_isZero (d := d + 2) v0) ?_
      rintro _ _ ⟨rfl, rfl⟩
      show X _ _ 49 [some (.inr (.inl v0)), none, some (.inr (.inl v2)), none, some (.inl w0), none, none, none, none, none, none, none, none, none, none, none, none, none, none, none, none] [.inl (b2i (f_M_isZero v0))] _ _
      refine X_run 1 (i1 := cond (cn1 .ne (b2i (f_M_isZero v0))) 53 50) (L1 := [some (.inr (.inl v0)), none, some (.inr (.inl v2)), none, some (.inl w0), none, none, none, none, none, none, none, none, none, none, none, none, none, none, none, none]) (st1 := []) rfl ?_
      refine X_brq (fun hb49 => ?_) (fun hb49 => ?_)
      · refine X_mask [false, true, false, true, true, true, true, true, true, true, true, true, true, true, true, true, true, true, true, true, true] ?_
        exact ct_M_times_53 w0
      · refine X_run 1 (i1 := 51) (L1 := [some (.inr (.inl v0)), none, some (.inr (.inl v2)), none, some (.inl w0), none, none, none, none, none, none, none, none, none, none, none, none, none, none, none, none]) (st1 := [.inr (.inl v2)]) rfl ?_
        refine X_calls m_M_isZero (As := [.inr (.inl v2)]) (st := []) ok_M_isZero rfl rfl rfl (Nat.le_of_ble_eq_true rfl) (Nat.le_of_ble_eq_true rfl) (c_M_isZero (d := d + 2) v2) ?_
        rintro _ _ ⟨rfl, rfl⟩
        show X _ _ 52 [some (.inr (.inl v0)), none, some (.inr (.inl v2)), none, some (.inl w0), none, none, none, none, none, none, none, none, none, none, none, none, none, none, none, none] [.inl (b2i (f_M_isZero v2))] _ _
        refine X_run 1 (i1 := cond (cn1 .eq (b2i (f_M_isZero v2))) 59 53) (L1 := [some (.inr (.inl v0)), none, some (.inr (.inl v2)), none, some (.inl w0), none, none, none, none, none, none, none, none, none, none, none, none, none, none, none, none]) (st1 := []) rfl ?_
        refine X_brq (fun hb52 => ?_) (fun hb52 => ?_)
        · refine X_run 1 (i1 := 60) (L1 := [some (.inr (.inl v0)), none, some (.inr (.inl v2)), none, some (.inl w0), none, none, none, none, none, none, none, none, none, none, none, none, none, none, none, none]) (st1 := [.inr (.inl v0)]) rfl ?_
          refine X_calls m_M_mantissa (As := [.inr (.inl v0)]) (st := []) ok_M_mantissa rfl rfl rfl (Nat.le_of_ble_eq_true rfl) (Nat.le_of_ble_eq_true rfl) (c_M_mantissa (d := d + 2) v0) ?_
          rintro _ _ ⟨rfl, rfl⟩
          show X _ _ 61 [some (.inr (.inl v0)), none, some (.inr (.inl v2)), none, some (.inl w0), none, none, none, none, none, none, none, none, none, none, none, none, none, none, none, none] [.inr (.inl (f_M_mantissa v0))] _ _
          refine X_run 2 (i1 := 63) (L1 := [some (.inr (.inl v0)), none, some (.inr (.inl v2)), none, some (.inl w0), some (.inr (.inl (f_M_mantissa v0))), none, none, none, none, none, none, none, none, none, none, none, none, none, none, none]) (st1 := [.inr (.inl v2)]) rfl ?_
          refine X_calls m_M_mantissa (As := [.inr (.inl v2)]) (st := []) ok_M_mantissa rfl rfl rfl (Nat.le_of_ble_eq_true rfl) (Nat.le_of_ble_eq_true rfl) (c_M_mantissa (d := d + 2) v2) ?_
          rintro _ _ ⟨rfl, rfl⟩
          show X _ _ 64 [some (.inr (.inl v0)), none, some (.inr (.inl v2)), none, some (.inl w0), some (.inr (.inl (f_M_mantissa v0))), none, none, none, none, none, none, none, none, none, none, none, none, none, none, none] [.inr (.inl (f_M_mantissa v2))] _ _
          refine X_run 2 (i1 := 66) (L1 := [some (.inr (.inl v0)), none, some (.inr (.inl v2)), none, some (.inl w0), some (.inr (.inl (f_M_mantissa v0))), none, some (.inr (.inl (f_M_mantissa v2))), none, none, none, none, none, none, none, none, none, none, none, none, none]) (st1 := [.inr (.inl v0)]) rfl ?_
          refine X_calls m_M_power (As := [.inr (.inl v0)]) (st := []) ok_M_power rfl rfl rfl (Nat.le_of_ble_eq_true rfl) (Nat.le_of_ble_eq_true rfl) (c_M_power (d := d + 2) v0) ?_
          rintro _ _ ⟨rfl, rfl⟩
          show X _ _ 67 [some (.inr (.inl v0)), none, some (.inr (.inl v2)), none, some (.inl w0), some (.inr (.inl (f_M_mantissa v0))), none, some (.inr (.inl (f_M_mantissa v2))), none, none, none, none, none, none, none, none, none, none, none, none, none] [.inl (f_M_power v0)] _ _
          refine X_run 1 (i1 := 68) (L1 := [some (.inr (.inl v0)), none, some (.inr (.inl v2)), none, some (.inl w0), some (.inr (.inl (f_M_mantissa v0))), none, some (.inr (.inl (f_M_mantissa v2))), none, none, none, none, none, none, none, none, none, none, none, none, none]) (st1 := [.inr (.inl v2), .inl (f_M_power v0)]) rfl ?_
          refine X_calls m_M_power (As := [.inr (.inl v2)]) (st := [.inl (f_M_power v0)]) ok_M_power rfl rfl rfl (Nat.le_of_ble_eq_true rfl) (Nat.le_of_ble_eq_true rfl) (c_M_power (d := d + 2) v2) ?_
          rintro _ _ ⟨rfl, rfl⟩
          show X _ _ 69 [some (.inr (.inl v0)), none, some (.inr (.inl v2)), none, some (.inl w0), some (.inr (.inl (f_M_mantissa v0))), none, some (.inr (.inl (f_M_mantissa v2))), none, none, none, none, none, none, none, none, none, none, none, none, none] [.inl (f_M_power v2), .inl (f_M_power v0)] _ _
          refine X_run 2 (i1 := 71) (L1 := [some (.inr (.inl v0)), none, some (.inr (.inl v2)), none, some (.inl w0), some (.inr (.inl (f_M_mantissa v0))), none, some (.inr (.inl (f_M_mantissa v2))), none, some (.inl ((f_M_power v0) + (f_M_power v2))), none, none, none, none, none, none, none, none, none, none, none]) (st1 := []) rfl ?_
          refine X_mask [false, true, false, true, true, true, true, true, true, true, true, true, true, true, true, true, true, true, true, true, true] ?_
          exact ct_M_times_71 53 w0 (f_M_mantissa v0) (f_M_mantissa v2) ((f_M_power v0) + (f_M_power v2)) (by exact ⟨nz_mant (zf_ne hb49), nz_mant (zf_eq hb52)⟩)
        · refine X_mask [false, true, false, true, true, true, true, true, true, true, true, true, true, true, true, true, true, true, true, true, true] ?_
          exact ct_M_times_53 w0
    · exact ct_M_times_33 v0 v2 w0
def t_M_times_22 (v0 : Int64) (v2 : Int64) (w0 : Int32) (w1 : Int32) : Int64 := (cond (cn2 .eq w1 w0) (t_M_times_26 v0 v2 (0 : Int32)) (t_M_times_26 v0 v2 (1 : Int32)))
theorem ct_M_times_22 {d : Nat} {P : AP} (v0 : Int64) (v2 : Int64) (w0 : Int32) (w1 : Int32) : X m_M_times (d + 3) 22 [some (.inr (.inl v0)), none, some (.inr (.inl v2)), none, none, none, none, none, none, none, none, none, none, none, none, none, none, none, none, none, none] [.inl w0, .inl w1] P (qL P (t_M_times_22 v0 v2 w0 w1)) := by
  unfold t_M_times_22
  refine X_run 1 (i1 := cond (cn2 .eq w1 w0) 25 23) (L1 := [some (.inr (.inl v0)), none, some (.inr (.inl v2)), none, none, none, none, none, none, none, none, none, none, none, none, none, none, none, none, none, none]) (st1 := []) rfl ?_
  refine X_brq (fun hb22 => ?_) (fun hb22 => ?_)
  · refine X_run 1 (i1 := 26) (L1 := [some (.inr (.inl v0)), none, some (.inr (.inl v2)), none, none, none, none, none, none, none, none, none, none, none, none, none, none, none, none, none, none]) (st1 := [.inl (0 : Int32)]) rfl ?_
    exact ct_M_times_26 v0 v2 (0 : Int32)
  · refine X_run 2 (i1 := 26) (L1 := [some (.inr (.inl v0)), none, some (.inr (.inl v2)), none, none, none, none, none, none, none, none, none, none, none, none, none, none, none, none, none, none]) (st1 := [.inl (1 : Int32)]) rfl ?_
    exact ct_M_times_26 v0 v2 (1 : Int32)
def t_M_times_15 (v0 : Int64) (v2 : Int64) (w0 : Int32) : Int64 := (cond (cn1 .ge (lg_cmp v2 (0 : Int64))) (t_M_times_22 v0 v2 (0 : Int32) w0) (t_M_times_22 v0 v2 (1 : Int32) w0))
theorem ct_M_times_15 {d : Nat} {P : AP} (v0 : Int64) (v2 : Int64) (w0 : Int32) : X m_M_times (d + 3) 15 [some (.inr (.inl v0)), none, some (.inr (.inl v2)), none, none, none, none, none, none, none, none, none, none, none, none, none, none, none, none, none, none] [.inl w0] P (qL P (t_M_times_15 v0 v2 w0)) := by
  unfold t_M_times_15
  refine X_run 4 (i1 := cond (cn1 .ge (lg_cmp v2 (0 : Int64))) 21 19) (L1 := [some (.inr (.inl v0)), none, some (.inr (.inl v2)), none, none, none, none, none, none, none, none, none, none, none, none, none, none, none, none, none, none]) (st1 := [.inl w0]) rfl ?_
  refine X_brq (fun hb18 => ?_) (fun hb18 => ?_)
  · refine X_run 1 (i1 := 22) (L1 := [some (.inr (.inl v0)), none, some (.inr (.inl v2)), none, none, none, none, none, none, none, none, none, none, none, none, none, none, none, none, none, none]) (st1 := [.inl (0 : Int32), .inl w0]) rfl ?_
    exact ct_M_times_22 v0 v2 (0 : Int32) w0
  · refine X_run 2 (i1 := 22) (L1 := [some (.inr (.inl v0)), none, some (.inr (.inl v2)), none, none, none, none, none, none, none, none, none, none, none, none, none, none, none, none, none, none]) (st1 := [.inl (1 : Int32), .inl w0]) rfl ?_
    exact ct_M_times_22 v0 v2 (1 : Int32) w0
def f_M_times (a0 : Int64) (a1 : Int64) : Int64 := (cond (cn1 .ne (b2i (f_M_isNo a0))) (9221120237041090560 : Int64) (cond (cn1 .eq (b2i (f_M_isNo a1))) (cond (cn1 .ge (lg_cmp a0 (0 : Int64))) (t_M_times_15 a0 a1 (0 : Int32)) (t_M_times_15 a0 a1 (1 : Int32))) (9221120237041090560 : Int64)))
theorem c_M_times {d : Nat} {P : AP} (a0 : Int64) (a1 : Int64) : X m_M_times (d + 3) 0 (entL 21 [.inr (.inl a0), .inr (.inl a1)]) [] P (qL P (f_M_times a0 a1)) := by
  unfold f_M_times
  refine X_run 1 (i1 := 1) (L1 := [some (.inr (.inl a0)), none, some (.inr (.inl a1)), none, none, none, none, none, none, none, none, none, none, none, none, none, none, none, none, none, none]) (st1 := [.inr (.inl a0)]) rfl ?_
  refine X_calls m_M_isNo (As := [.inr (.inl a0)]) (st := []) ok_M_isNo rfl rfl rfl (Nat.le_of_ble_eq_true rfl) (Nat.le_of_ble_eq_true rfl) (c_M_isNo (d := d + 2) a0) ?_
  rintro _ _ ⟨rfl, rfl⟩
  show X _ _ 2 [some (.inr (.inl a0)), none, some (.inr (.inl a1)), none, none, none, none, none, none, none, none, none, none, none, none, none, none, none, none, none, none] [.inl (b2i (f_M_isNo a0))] _ _
  refine X_run 1 (i1 := cond (cn1 .ne (b2i (f_M_isNo a0))) 6 3) (L1 := [some (.inr (.inl a0)), none, some (.inr (.inl a1)), none, none, none, none, none, none, none, none, none, none, none, none, none, none, none, none, none, none]) (st1 := []) rfl ?_
  refine X_brq (fun hb2 => ?_) (fun hb2 => ?_)
  · refine X_run 1 (i1 := 7) (L1 := [some (.inr (.inl a0)), none, some (.inr (.inl a1)), none, none, none, none, none, none, none, none, none, none, none, none, none, none, none, none, none, none]) (st1 := [.inr (.inl (9221120237041090560 : Int64))]) rfl ?_
    exact X_lret rfl rfl ⟨rfl, rfl⟩
  · refine X_run 1 (i1 := 4) (L1 := [some (.inr (.inl a0)), none, some (.inr (.inl a1)), none, none, none, none, none, none, none, none, none, none, none, none, none, none, none, none, none, none]) (st1 := [.inr (.inl a1)]) rfl ?_
    refine X_calls m_M_isNo (As := [.inr (.inl a1)]) (st := []) ok_M_isNo rfl rfl rfl (Nat.le_of_ble_eq_true rfl) (Nat.le_of_ble_eq_true rfl) (c_M_isNo (d := d + 2) a1) ?_
    rintro _ _ ⟨rfl, rfl⟩
    show X _ _ 5 [some (.inr (.inl a0)), none, some (.inr (.inl a1)), none, none, none, none, none, none, none, none, none, none, none, none, none, none, none, none, none, none] [.inl (b2i (f_M_isNo a1))] _ _
    refine X_run 1 (i1 := cond (cn1 .eq (b2i (f_M_isNo a1))) 8 6) (L1 := [some (.inr (.inl a0)), none, some (.inr (.inl a1)), none, none, none, none, none, none, none, none, none, none, none, none, none, none, none, none, none, none]) (st1 := []) rfl ?_
    refine X_brq (fun hb5 => ?_) (fun hb5 => ?_)
    · refine X_run 4 (i1 := cond (cn1 .ge (lg_cmp a0 (0 : Int64))) 14 12) (L1 := [some (.inr (.inl a0)), none, some (.inr (.inl a1)), none, none, none, none, none, none, none, none, none, none, none, none, none, none, none, none, none, none]) (st1 := []) rfl ?_
      refine X_brq (fun hb11 => ?_) (fun hb11 => ?_)
      · refine X_run 1 (i1 := 15) (L1 := [some (.inr (.inl a0)), none, some (.inr (.inl a1)), none, none, none, none, none, none, none, none, none, none, none, none, none, none, none, none, none, none]) (st1 := [.inl (0 : Int32)]) rfl ?_
        exact ct_M_times_15 a0 a1 (0 : Int32)
      · refine X_run 2 (i1 := 15) (L1 := [some (.inr (.inl a0)), none, some (.inr (.inl a1)), none, none, none, none, none, none, none, none, none, none, none, none, none, none, none, none, none, none]) (st1 := [.inl (1 : Int32)]) rfl ?_
        exact ct_M_times_15 a0 a1 (1 : Int32)
    · refine X_run 1 (i1 := 7) (L1 := [some (.inr (.inl a0)), none, some (.inr (.inl a1)), none, none, none, none, none, none, none, none, none, none, none, none, none, none, none, none, none, none]) (st1 := [.inr (.inl (9221120237041090560 : Int64))]) rfl ?_
      exact X_lret rfl rfl ⟨rfl, rfl⟩
def t_M_by_136 (w0 : Int32) (w1 : Int32) (w2 : Int64) (w3 : Int32) : Int64 := (f_M_signed w3 w2 w1 w0)
theorem ct_M_by_136 {d : Nat} {P : AP} (w0 : Int32) (w1 : Int32) (w2 : Int64) (w3 : Int32) : X m_M_by (d + 3) 136 [none, none, none, none, none, none, none, none, none, none, none, none, none] [.inl w0, .inl w1, .inr (.inl w2), .inl w3] P (qL P (t_M_by_136 w0 w1 w2 w3)) := by
  unfold t_M_by_136
  refine X_calls m_M_signed (As := [.inl w3, .inr (.inl w2), .inl w1, .inl w0]) (st := []) ok_M_signed rfl rfl rfl (Nat.le_of_ble_eq_true rfl) (Nat.le_of_ble_eq_true rfl) (c_M_signed (d := d) w3 w2 w1 w0) ?_
  rintro _ _ ⟨rfl, rfl⟩
  show X _ _ 137 [none, none, none, none, none, none, none, none, none, none, none, none, none] [.inr (.inl (f_M_signed w3 w2 w1 w0))] _ _
  exact X_lret rfl rfl ⟨rfl, rfl⟩
def t_M_by_99 : Nat → Int32 → Int64 → Int64 → Int32 → Int64 → Int32 → Int64
  | 0, _, _, _, _, _, _ => 0
  | n + 1, v4, v5, v7, v9, v10, v12 => (cond (cn2 .ge v12 (60 : Int32)) (cond (cn1 .eq (lg_cmp v5 (0 : Int64))) (t_M_by_136 (0 : Int32) (v9 - (59 : Int32)) v10 v4) (t_M_by_136 (1 : Int32) (v9 - (59 : Int32)) v10 v4)) (cond (cn1 .lt (lg_cmp v5 v7)) (t_M_by_99 n v4 (v5 <<< (Int32.toInt64 (1 : Int32) &&& 63)) v7 v9 (v10 <<< (Int32.toInt64 (1 : Int32) &&& 63)) (v12 + Int32.ofInt (1))) (t_M_by_99 n v4 ((v5 - v7) <<< (Int32.toInt64 (1 : Int32) &&& 63)) v7 v9 ((v10 <<< (Int32.toInt64 (1 : Int32) &&& 63)) + (1 : Int64)) (v12 + Int32.ofInt (1)))))
theorem ct_M_by_99 {d : Nat} {P : AP} : ∀ (n : Nat) (v4 : Int32) (v5 : Int64) (v7 : Int64) (v9 : Int32) (v10 : Int64) (v12 : Int32), 0 ≤ v12.toInt ∧ v12.toInt ≤ 60 ∧ 60 - v12.toInt < n → X m_M_by (d + 3) 99 [none, none, none, none, some (.inl v4), some (.inr (.inl v5)), none, some (.inr (.inl v7)), none, some (.inl v9), some (.inr (.inl v10)), none, some (.inl v12)] [] P (qL P (t_M_by_99 n v4 v5 v7 v9 v10 v12))
  | 0, v4, v5, v7, v9, v10, v12, hI => by exfalso; omega
  | n + 1, v4, v5, v7, v9, v10, v12, hI => by
    have ih := @ct_M_by_99 d P n
    unfold t_M_by_99
    refine X_run 3 (i1 := cond (cn2 .ge v12 (60 : Int32)) 124 102) (L1 := [none, none, none, none, some (.inl v4), some (.inr (.inl v5)), none, some (.inr (.inl v7)), none, some (.inl v9), some (.inr (.inl v10)), none, some (.inl v12)]) (st1 := []) rfl ?_
    refine X_brq (fun hb101 => ?_) (fun hb101 => ?_)
    · refine X_run 9 (i1 := cond (cn1 .eq (lg_cmp v5 (0 : Int64))) 135 133) (L1 := [none, none, none, none, some (.inl v4), some (.inr (.inl v5)), none, some (.inr (.inl v7)), none, some (.inl v9), some (.inr (.inl v10)), none, some (.inl v12)]) (st1 := [.inl (v9 - (59 : Int32)), .inr (.inl v10), .inl v4]) rfl ?_
      refine X_brq (fun hb132 => ?_) (fun hb132 => ?_)
      · refine X_run 1 (i1 := 136) (L1 := [none, none, none, none, some (.inl v4), some (.inr (.inl v5)), none, some (.inr (.inl v7)), none, some (.inl v9), some (.inr (.inl v10)), none, some (.inl v12)]) (st1 := [.inl (0 : Int32), .inl (v9 - (59 : Int32)), .inr (.inl v10), .inl v4]) rfl ?_
        refine X_mask [true, true, true, true, false, false, true, false, true, false, false, true, false] ?_
        exact ct_M_by_136 (0 : Int32) (v9 - (59 : Int32)) v10 v4
      · refine X_run 2 (i1 := 136) (L1 := [none, none, none, none, some (.inl v4), some (.inr (.inl v5)), none, some (.inr (.inl v7)), none, some (.inl v9), some (.inr (.inl v10)), none, some (.inl v12)]) (st1 := [.inl (1 : Int32), .inl (v9 - (59 : Int32)), .inr (.inl v10), .inl v4]) rfl ?_
        refine X_mask [true, true, true, true, false, false, true, false, true, false, false, true, false] ?_
        exact ct_M_by_136 (1 : Int32) (v9 - (59 : Int32)) v10 v4
    · refine X_run 8 (i1 := cond (cn1 .lt (lg_cmp v5 v7)) 118 110) (L1 := [none, none, none, none, some (.inl v4), some (.inr (.inl v5)), none, some (.inr (.inl v7)), none, some (.inl v9), some (.inr (.inl (v10 <<< (Int32.toInt64 (1 : Int32) &&& 63)))), none, some (.inl v12)]) (st1 := []) rfl ?_
      refine X_brq (fun hb109 => ?_) (fun hb109 => ?_)
      · refine X_run 6 (i1 := 99) (L1 := [none, none, none, none, some (.inl v4), some (.inr (.inl (v5 <<< (Int32.toInt64 (1 : Int32) &&& 63)))), none, some (.inr (.inl v7)), none, some (.inl v9), some (.inr (.inl (v10 <<< (Int32.toInt64 (1 : Int32) &&& 63)))), none, some (.inl (v12 + Int32.ofInt (1)))]) (st1 := []) rfl ?_
        exact ih v4 (v5 <<< (Int32.toInt64 (1 : Int32) &&& 63)) v7 v9 (v10 <<< (Int32.toInt64 (1 : Int32) &&& 63)) (v12 + Int32.ofInt (1)) (by have h1 := i_ge_f hb101; have h2 : (60 : Int32).toInt = 60 := (by decide); have h3 := i_add (x := v12) 1 (by omega) (by omega) (by omega) (by omega); omega)
      · refine X_run 14 (i1 := 99) (L1 := [none, none, none, none, some (.inl v4), some (.inr (.inl ((v5 - v7) <<< (Int32.toInt64 (1 : Int32) &&& 63)))), none, some (.inr (.inl v7)), none, some (.inl v9), some (.inr (.inl ((v10 <<< (Int32.toInt64 (1 : Int32) &&& 63)) + (1 : Int64)))), none, some (.inl (v12 + Int32.ofInt (1)))]) (st1 := []) rfl ?_
        exact ih v4 ((v5 - v7) <<< (Int32.toInt64 (1 : Int32) &&& 63)) v7 v9 ((v10 <<< (Int32.toInt64 (1 : Int32) &&& 63)) + (1 : Int64)) (v12 + Int32.ofInt (1)) (by have h1 := i_ge_f hb101; have h2 : (60 : Int32).toInt = 60 := (by decide); have h3 := i_add (x := v12) 1 (by omega) (by omega) (by omega) (by omega); omega)
def t_M_by_85 : Nat → Int32 → Int64 → Int64 → Int32 → Int64
  | 0, _, _, _, _ => 0
  | n + 1, v4, v5, v7, v9 => (cond (cn1 .ge (lg_cmp v7 (4503599627370496 : Int64))) (t_M_by_99 61 v4 v5 v7 v9 (0 : Int64) (0 : Int32)) (t_M_by_85 n v4 v5 (v7 <<< (Int32.toInt64 (1 : Int32) &&& 63)) (v9 + Int32.ofInt (1))))
theorem ct_M_by_85 {d : Nat} {P : AP} : ∀ (n : Nat) (v4 : Int32) (v5 : Int64) (v7 : Int64) (v9 : Int32), NZ n v7 → X m_M_by (d + 3) 85 [none, none, none, none, some (.inl v4), some (.inr (.inl v5)), none, some (.inr (.inl v7)), none, some (.inl v9), none, none, none] [] P (qL P (t_M_by_85 n v4 v5 v7 v9))
  | 0, v4, v5, v7, v9, hI => by exact hI.no.elim
  | n + 1, v4, v5, v7, v9, hI => by
    have ih := @ct_M_by_85 d P n
    unfold t_M_by_85
    refine X_run 4 (i1 := cond (cn1 .ge (lg_cmp v7 (4503599627370496 : Int64))) 95 89) (L1 := [none, none, none, none, some (.inl v4), some (.inr (.inl v5)), none, some (.inr (.inl v7)), none, some (.inl v9), none, none, none]) (st1 := []) rfl ?_
    refine X_brq (fun hb88 => ?_) (fun hb88 => ?_)
    · refine X_run 4 (i1 := 99) (L1 := [none, none, none, none, some (.inl v4), some (.inr (.inl v5)), none, some (.inr (.inl v7)), none, some (.inl v9), some (.inr (.inl (0 : Int64))), none, some (.inl (0 : Int32))]) (st1 := []) rfl ?_
      exact ct_M_by_99 61 v4 v5 v7 v9 (0 : Int64) (0 : Int32) (by exact ⟨by decide, by decide, by decide⟩)
    · refine X_run 6 (i1 := 85) (L1 := [none, none, none, none, some (.inl v4), some (.inr (.inl v5)), none, some (.inr (.inl (v7 <<< (Int32.toInt64 (1 : Int32) &&& 63)))), none, some (.inl (v9 + Int32.ofInt (1))), none, none, none]) (st1 := []) rfl ?_
      exact ih v4 v5 (v7 <<< (Int32.toInt64 (1 : Int32) &&& 63)) (v9 + Int32.ofInt (1)) (by exact hI.up hb88)
def t_M_by_75 : Nat → Int32 → Int64 → Int64 → Int32 → Int64
  | 0, _, _, _, _ => 0
  | n + 1, v4, v5, v7, v9 => (cond (cn1 .ge (lg_cmp v5 (4503599627370496 : Int64))) (t_M_by_85 53 v4 v5 v7 v9) (t_M_by_75 n v4 (v5 <<< (Int32.toInt64 (1 : Int32) &&& 63)) v7 (v9 + Int32.ofInt (-1))))
theorem ct_M_by_75 {d : Nat} {P : AP} : ∀ (n : Nat) (v4 : Int32) (v5 : Int64) (v7 : Int64) (v9 : Int32), NZ n v5 ∧ NZ 53 v7 → X m_M_by (d + 3) 75 [none, none, none, none, some (.inl v4), some (.inr (.inl v5)), none, some (.inr (.inl v7)), none, some (.inl v9), none, none, none] [] P (qL P (t_M_by_75 n v4 v5 v7 v9))
  | 0, v4, v5, v7, v9, hI => by exact hI.1.no.elim
  | n + 1, v4, v5, v7, v9, hI => by
    have ih := @ct_M_by_75 d P n
    unfold t_M_by_75
    refine X_run 4 (i1 := cond (cn1 .ge (lg_cmp v5 (4503599627370496 : Int64))) 85 79) (L1 := [none, none, none, none, some (.inl v4), some (.inr (.inl v5)), none, some (.inr (.inl v7)), none, some (.inl v9), none, none, none]) (st1 := []) rfl ?_
    refine X_brq (fun hb78 => ?_) (fun hb78 => ?_)
    · exact ct_M_by_85 53 v4 v5 v7 v9 (by exact hI.2)
    · refine X_run 6 (i1 := 75) (L1 := [none, none, none, none, some (.inl v4), some (.inr (.inl (v5 <<< (Int32.toInt64 (1 : Int32) &&& 63)))), none, some (.inr (.inl v7)), none, some (.inl (v9 + Int32.ofInt (-1))), none, none, none]) (st1 := []) rfl ?_
      exact ih v4 (v5 <<< (Int32.toInt64 (1 : Int32) &&& 63)) v7 (v9 + Int32.ofInt (-1)) (by exact ⟨hI.1.up hb78, hI.2⟩)
def t_M_by_57 (v4 : Int32) : Int64 := (cond (cn1 .eq v4) (0 : Int64) (-9223372036854775808 : Int64))
theorem ct_M_by_57 {d : Nat} {P : AP} (v4 : Int32) : X m_M_by (d + 3) 57 [none, none, none, none, some (.inl v4), none, none, none, none, none, none, none, none] [] P (qL P (t_M_by_57 v4)) := by
  unfold t_M_by_57
  refine X_run 2 (i1 := cond (cn1 .eq v4) 61 59) (L1 := [none, none, none, none, some (.inl v4), none, none, none, none, none, none, none, none]) (st1 := []) rfl ?_
  refine X_brq (fun hb58 => ?_) (fun hb58 => ?_)
  · refine X_run 1 (i1 := 62) (L1 := [none, none, none, none, some (.inl v4), none, none, none, none, none, none, none, none]) (st1 := [.inr (.inl (0 : Int64))]) rfl ?_
    exact X_lret rfl rfl ⟨rfl, rfl⟩
  · refine X_run 2 (i1 := 62) (L1 := [none, none, none, none, some (.inl v4), none, none, none, none, none, none, none, none]) (st1 := [.inr (.inl (-9223372036854775808 : Int64))]) rfl ?_
    exact X_lret rfl rfl ⟨rfl, rfl⟩
def t_M_by_45 (v4 : Int32) : Int64 := (cond (cn1 .eq v4) (9218868437227405312 : Int64) (-4503599627370496 : Int64))
theorem ct_M_by_45 {d : Nat} {P : AP} (v4 : Int32) : X m_M_by (d + 3) 45 [none, none, none, none, some (.inl v4), none, none, none, none, none, none, none, none] [] P (qL P (t_M_by_45 v4)) := by
  unfold t_M_by_45
  refine X_run 2 (i1 := cond (cn1 .eq v4) 49 47) (L1 := [none, none, none, none, some (.inl v4), none, none, none, none, none, none, none, none]) (st1 := []) rfl ?_
  refine X_brq (fun hb46 => ?_) (fun hb46 => ?_)
  · refine X_run 1 (i1 := 50) (L1 := [none, none, none, none, some (.inl v4), none, none, none, none, none, none, none, none]) (st1 := [.inr (.inl (9218868437227405312 : Int64))]) rfl ?_
    exact X_lret rfl rfl ⟨rfl, rfl⟩
  · refine X_run 2 (i1 := 50) (L1 := [none, none, none, none, some (.inl v4), none, none, none, none, none, none, none, none]) (st1 := [.inr (.inl (-4503599627370496 : Int64))]) rfl ?_
    exact X_lret rfl rfl ⟨rfl, rfl⟩
def t_M_by_38 (v0 : Int64) (v2 : Int64) (w0 : Int32) : Int64 := (cond (cn1 .ne (b2i (f_M_isInfinite v0))) (t_M_by_45 w0) (cond (cn1 .eq (b2i (f_M_isZero v2))) (cond (cn1 .ne (b2i (f_M_isZero v0))) (t_M_by_57 w0) (cond (cn1 .eq (b2i (f_M_isInfinite v2))) (t_M_by_75 53 w0 (f_M_mantissa v0) (f_M_mantissa v2) ((f_M_power v0) - (f_M_power v2))) (t_M_by_57 w0))) (t_M_by_45 w0)))
theorem ct_M_by_38 {d : Nat} {P : AP} (v0 : Int64) (v2 : Int64) (w0 : Int32) : X m_M_by (d + 3) 38 [some (.inr (.inl v0)), none, some (.inr (.inl v2)), none, none, none, none, none, none, none, none, none, none] [.inl w0] P (qL P (t_M_by_38 v0 v2 w0)) := by
  unfold t_M_by_38
  refine X_run 2 (i1 := 40) (L1 := [some (.inr (.inl v0)), none, some (.inr (.inl v2)), none, some (.inl w0), none, none, none, none, none, none, none, none]) (st1 := [.inr (.inl v0)]) rfl ?_
  refine X_calls m_M_isInfinite (As := [.inr (.inl v0)]) (st := []) ok_M_isInfinite rfl rfl rfl (Nat.le_of_ble_eq_true rfl) (Nat.le_of_ble_eq_true rfl) (c_M_isInfinite (d := d + 2) v0) ?_
  rintro _ _ ⟨rfl, rfl⟩
  show X _ _ 41 [some (.inr (.inl v0)), none, some (.inr (.inl v2)), none, some (.inl w0), none, none, none, none, none, none, none, none] [.inl (b2i (f_M_isInfinite v0))] _ _
  refine X_run 1 (i1 := cond (cn1 .ne (b2i (f_M_isInfinite v0))) 45 42) (L1 := [some (.inr (.inl v0)), none, some (.inr (.inl v2)), none, some (.inl w0), none, none, none, none, none, none, none, none]) (st1 := []) rfl ?_
  refine X_brq (fun hb41 => ?_) (fun hb41 => ?_)
  · refine X_mask [false, true, false, true, true, true, true, true, true, true, true, true, true] ?_
    exact ct_M_by_45 w0
  · refine X_run 1 (i1 := 43) (L1 := [some (.inr (.inl v0)), none, some (.inr (.inl v2)), none, some (.inl w0), none, none, none, none, none, none, none, none]) (st1 := [.inr (.inl v2)]) rfl ?_
    refine X_calls m_M_isZero (As := [.inr (.inl v2)]) (st := []) ok_M_isZero rfl rfl rfl (Nat.le_of_ble_eq_true rfl) (Nat.le_of_ble_eq_true rfl) (c_M_isZero (d := d + 2) v2) ?_
    rintro _ _ ⟨rfl, rfl⟩
    show X _ _ 44 [some (.inr (.inl v0)), none, some (.inr (.inl v2)), none, some (.inl w0), none, none, none, none, none, none, none, none] [.inl (b2i (f_M_isZero v2))] _ _
    refine X_run 1 (i1 := cond (cn1 .eq (b2i (f_M_isZero v2))) 51 45) (L1 := [some (.inr (.inl v0)), none, some (.inr (.inl v2)), none, some (.inl w0), none, none, none, none, none, none, none, none]) (st1 := []) rfl ?_
    refine X_brq (fun hb44 => ?_) (fun hb44 => ?_)
    · refine X_run 1 (i1 := 52) (L1 := [some (.inr (.inl v0)), none, some (.inr (.inl v2)), none, some (.inl w0), none, none, none, none, none, none, none, none]) (st1 := [.inr (.inl v0)]) rfl ?_
      refine X_calls m_M_isZero (As := [.inr (.inl v0)]) (st := []) ok_M_isZero rfl rfl rfl (Nat.le_of_ble_eq_true rfl) (Nat.le_of_ble_eq_true rfl) (c_M_isZero (d := d + 2) v0) ?_
      rintro _ _ ⟨rfl, rfl⟩
      show X _ _ 53 [some (.inr (.inl v0)), none, some (.inr (.inl v2)), none, some (.inl w0), none, none, none, none, none, none, none, none] [.inl (b2i (f_M_isZero v0))] _ _
      refine X_run 1 (i1 := cond (cn1 .ne (b2i (f_M_isZero v0))) 57 54) (L1 := [some (.inr (.inl v0)), none, some (.inr (.inl v2)), none, some (.inl w0), none, none, none, none, none, none, none, none]) (st1 := []) rfl ?_
      refine X_brq (fun hb53 => ?_) (fun hb53 => ?_)
      · refine X_mask [false, true, false, true, true, true, true, true, true, true, true, true, true] ?_
        exact ct_M_by_57 w0
      · refine X_run 1 (i1 := 55) (L1 := [some (.inr (.inl v0)), none, some (.inr (.inl v2)), none, some (.inl w0), none, none, none, none, none, none, none, none]) (st1 := [.inr (.inl v2)]) rfl ?_
        refine X_calls m_M_isInfinite (As := [.inr (.inl v2)]) (st := []) ok_M_isInfinite rfl rfl rfl (Nat.le_of_ble_eq_true rfl) (Nat.le_of_ble_eq_true rfl) (c_M_isInfinite (d := d + 2) v2) ?_
        rintro _ _ ⟨rfl, rfl⟩
        show X _ _ 56 [some (.inr (.inl v0)), none, some (.inr (.inl v2)), none, some (.inl w0), none, none, none, none, none, none, none, none] [.inl (b2i (f_M_isInfinite v2))] _ _
        refine X_run 1 (i1 := cond (cn1 .eq (b2i (f_M_isInfinite v2))) 63 57) (L1 := [some (.inr (.inl v0)), none, some (.inr (.inl v2)), none, some (.inl w0), none, none, none, none, none, none, none, none]) (st1 := []) rfl ?_
        refine X_brq (fun hb56 => ?_) (fun hb56 => ?_)
        · refine X_run 1 (i1 := 64) (L1 := [some (.inr (.inl v0)), none, some (.inr (.inl v2)), none, some (.inl w0), none, none, none, none, none, none, none, none]) (st1 := [.inr (.inl v0)]) rfl ?_
          refine X_calls m_M_mantissa (As := [.inr (.inl v0)]) (st := []) ok_M_mantissa rfl rfl rfl (Nat.le_of_ble_eq_true rfl) (Nat.le_of_ble_eq_true rfl) (c_M_mantissa (d := d + 2) v0) ?_
          rintro _ _ ⟨rfl, rfl⟩
          show X _ _ 65 [some (.inr (.inl v0)), none, some (.inr (.inl v2)), none, some (.inl w0), none, none, none, none, none, none, none, none] [.inr (.inl (f_M_mantissa v0))] _ _
          refine X_run 2 (i1 := 67) (L1 := [some (.inr (.inl v0)), none, some (.inr (.inl v2)), none, some (.inl w0), some (.inr (.inl (f_M_mantissa v0))), none, none, none, none, none, none, none]) (st1 := [.inr (.inl v2)]) rfl ?_
          refine X_calls m_M_mantissa (As := [.inr (.inl v2)]) (st := []) ok_M_mantissa rfl rfl rfl (Nat.le_of_ble_eq_true rfl) (Nat.le_of_ble_eq_true rfl) (c_M_mantissa (d := d + 2) v2) ?_
          rintro _ _ ⟨rfl, rfl⟩
          show X _ _ 68 [some (.inr (.inl v0)), none, some (.inr (.inl v2)), none, some (.inl w0), some (.inr (.inl (f_M_mantissa v0))), none, none, none, none, none, none, none] [.inr (.inl (f_M_mantissa v2))] _ _
          refine X_run 2 (i1 := 70) (L1 := [some (.inr (.inl v0)), none, some (.inr (.inl v2)), none, some (.inl w0), some (.inr (.inl (f_M_mantissa v0))), none, some (.inr (.inl (f_M_mantissa v2))), none, none, none, none, none]) (st1 := [.inr (.inl v0)]) rfl ?_
          refine X_calls m_M_power (As := [.inr (.inl v0)]) (st := []) ok_M_power rfl rfl rfl (Nat.le_of_ble_eq_true rfl) (Nat.le_of_ble_eq_true rfl) (c_M_power (d := d + 2) v0) ?_
          rintro _ _ ⟨rfl, rfl⟩
          show X _ _ 71 [some (.inr (.inl v0)), none, some (.inr (.inl v2)), none, some (.inl w0), some (.inr (.inl (f_M_mantissa v0))), none, some (.inr (.inl (f_M_mantissa v2))), none, none, none, none, none] [.inl (f_M_power v0)] _ _
          refine X_run 1 (i1 := 72) (L1 := [some (.inr (.inl v0)), none, some (.inr (.inl v2)), none, some (.inl w0), some (.inr (.inl (f_M_mantissa v0))), none, some (.inr (.inl (f_M_mantissa v2))), none, none, none, none, none]) (st1 := [.inr (.inl v2), .inl (f_M_power v0)]) rfl ?_
          refine X_calls m_M_power (As := [.inr (.inl v2)]) (st := [.inl (f_M_power v0)]) ok_M_power rfl rfl rfl (Nat.le_of_ble_eq_true rfl) (Nat.le_of_ble_eq_true rfl) (c_M_power (d := d + 2) v2) ?_
          rintro _ _ ⟨rfl, rfl⟩
          show X _ _ 73 [some (.inr (.inl v0)), none, some (.inr (.inl v2)), none, some (.inl w0), some (.inr (.inl (f_M_mantissa v0))), none, some (.inr (.inl (f_M_mantissa v2))), none, none, none, none, none] [.inl (f_M_power v2), .inl (f_M_power v0)] _ _
          refine X_run 2 (i1 := 75) (L1 := [some (.inr (.inl v0)), none, some (.inr (.inl v2)), none, some (.inl w0), some (.inr (.inl (f_M_mantissa v0))), none, some (.inr (.inl (f_M_mantissa v2))), none, some (.inl ((f_M_power v0) - (f_M_power v2))), none, none, none]) (st1 := []) rfl ?_
          refine X_mask [false, true, false, true, true, true, true, true, true, true, true, true, true] ?_
          exact ct_M_by_75 53 w0 (f_M_mantissa v0) (f_M_mantissa v2) ((f_M_power v0) - (f_M_power v2)) (by exact ⟨nz_mant (zf_ne hb53), nz_mant (zf_eq hb44)⟩)
        · refine X_mask [false, true, false, true, true, true, true, true, true, true, true, true, true] ?_
          exact ct_M_by_57 w0
    · refine X_mask [false, true, false, true, true, true, true, true, true, true, true, true, true] ?_
      exact ct_M_by_45 w0
def t_M_by_34 (v0 : Int64) (v2 : Int64) (w0 : Int32) (w1 : Int32) : Int64 := (cond (cn2 .eq w1 w0) (t_M_by_38 v0 v2 (0 : Int32)) (t_M_by_38 v0 v2 (1 : Int32)))
theorem ct_M_by_34 {d : Nat} {P : AP} (v0 : Int64) (v2 : Int64) (w0 : Int32) (w1 : Int32) : X m_M_by (d + 3) 34 [some (.inr (.inl v0)), none, some (.inr (.inl v2)), none, none, none, none, none, none, none, none, none, none] [.inl w0, .inl w1] P (qL P (t_M_by_34 v0 v2 w0 w1)) := by
  unfold t_M_by_34
  refine X_run 1 (i1 := cond (cn2 .eq w1 w0) 37 35) (L1 := [some (.inr (.inl v0)), none, some (.inr (.inl v2)), none, none, none, none, none, none, none, none, none, none]) (st1 := []) rfl ?_
  refine X_brq (fun hb34 => ?_) (fun hb34 => ?_)
  · refine X_run 1 (i1 := 38) (L1 := [some (.inr (.inl v0)), none, some (.inr (.inl v2)), none, none, none, none, none, none, none, none, none, none]) (st1 := [.inl (0 : Int32)]) rfl ?_
    exact ct_M_by_38 v0 v2 (0 : Int32)
  · refine X_run 2 (i1 := 38) (L1 := [some (.inr (.inl v0)), none, some (.inr (.inl v2)), none, none, none, none, none, none, none, none, none, none]) (st1 := [.inl (1 : Int32)]) rfl ?_
    exact ct_M_by_38 v0 v2 (1 : Int32)
def t_M_by_27 (v0 : Int64) (v2 : Int64) (w0 : Int32) : Int64 := (cond (cn1 .ge (lg_cmp v2 (0 : Int64))) (t_M_by_34 v0 v2 (0 : Int32) w0) (t_M_by_34 v0 v2 (1 : Int32) w0))
theorem ct_M_by_27 {d : Nat} {P : AP} (v0 : Int64) (v2 : Int64) (w0 : Int32) : X m_M_by (d + 3) 27 [some (.inr (.inl v0)), none, some (.inr (.inl v2)), none, none, none, none, none, none, none, none, none, none] [.inl w0] P (qL P (t_M_by_27 v0 v2 w0)) := by
  unfold t_M_by_27
  refine X_run 4 (i1 := cond (cn1 .ge (lg_cmp v2 (0 : Int64))) 33 31) (L1 := [some (.inr (.inl v0)), none, some (.inr (.inl v2)), none, none, none, none, none, none, none, none, none, none]) (st1 := [.inl w0]) rfl ?_
  refine X_brq (fun hb30 => ?_) (fun hb30 => ?_)
  · refine X_run 1 (i1 := 34) (L1 := [some (.inr (.inl v0)), none, some (.inr (.inl v2)), none, none, none, none, none, none, none, none, none, none]) (st1 := [.inl (0 : Int32), .inl w0]) rfl ?_
    exact ct_M_by_34 v0 v2 (0 : Int32) w0
  · refine X_run 2 (i1 := 34) (L1 := [some (.inr (.inl v0)), none, some (.inr (.inl v2)), none, none, none, none, none, none, none, none, none, none]) (st1 := [.inl (1 : Int32), .inl w0]) rfl ?_
    exact ct_M_by_34 v0 v2 (1 : Int32) w0
def t_M_by_20 (v0 : Int64) (v2 : Int64) : Int64 := (cond (cn1 .ge (lg_cmp v0 (0 : Int64))) (t_M_by_27 v0 v2 (0 : Int32)) (t_M_by_27 v0 v2 (1 : Int32)))
theorem ct_M_by_20 {d : Nat} {P : AP} (v0 : Int64) (v2 : Int64) : X m_M_by (d + 3) 20 [some (.inr (.inl v0)), none, some (.inr (.inl v2)), none, none, none, none, none, none, none, none, none, none] [] P (qL P (t_M_by_20 v0 v2)) := by
  unfold t_M_by_20
  refine X_run 4 (i1 := cond (cn1 .ge (lg_cmp v0 (0 : Int64))) 26 24) (L1 := [some (.inr (.inl v0)), none, some (.inr (.inl v2)), none, none, none, none, none, none, none, none, none, none]) (st1 := []) rfl ?_
  refine X_brq (fun hb23 => ?_) (fun hb23 => ?_)
  · refine X_run 1 (i1 := 27) (L1 := [some (.inr (.inl v0)), none, some (.inr (.inl v2)), none, none, none, none, none, none, none, none, none, none]) (st1 := [.inl (0 : Int32)]) rfl ?_
    exact ct_M_by_27 v0 v2 (0 : Int32)
  · refine X_run 2 (i1 := 27) (L1 := [some (.inr (.inl v0)), none, some (.inr (.inl v2)), none, none, none, none, none, none, none, none, none, none]) (st1 := [.inl (1 : Int32)]) rfl ?_
    exact ct_M_by_27 v0 v2 (1 : Int32)
def t_M_by_12 (v0 : Int64) (v2 : Int64) : Int64 := (cond (cn1 .eq (b2i (f_M_isZero v0))) (t_M_by_20 v0 v2) (cond (cn1 .eq (b2i (f_M_isZero v2))) (t_M_by_20 v0 v2) (9221120237041090560 : Int64)))
theorem ct_M_by_12 {d : Nat} {P : AP} (v0 : Int64) (v2 : Int64) : X m_M_by (d + 3) 12 [some (.inr (.inl v0)), none, some (.inr (.inl v2)), none, none, none, none, none, none, none, none, none, none] [] P (qL P (t_M_by_12 v0 v2)) := by
  unfold t_M_by_12
  refine X_run 1 (i1 := 13) (L1 := [some (.inr (.inl v0)), none, some (.inr (.inl v2)), none, none, none, none, none, none, none, none, none, none]) (st1 := [.inr (.inl v0)]) rfl ?_
  refine X_calls m_M_isZero (As := [.inr (.inl v0)]) (st := []) ok_M_isZero rfl rfl rfl (Nat.le_of_ble_eq_true rfl) (Nat.le_of_ble_eq_true rfl) (c_M_isZero (d := d + 2) v0) ?_
  rintro _ _ ⟨rfl, rfl⟩
  show X _ _ 14 [some (.inr (.inl v0)), none, some (.inr (.inl v2)), none, none, none, none, none, none, none, none, none, none] [.inl (b2i (f_M_isZero v0))] _ _
  refine X_run 1 (i1 := cond (cn1 .eq (b2i (f_M_isZero v0))) 20 15) (L1 := [some (.inr (.inl v0)), none, some (.inr (.inl v2)), none, none, none, none, none, none, none, none, none, none]) (st1 := []) rfl ?_
  refine X_brq (fun hb14 => ?_) (fun hb14 => ?_)
  · exact ct_M_by_20 v0 v2
  · refine X_run 1 (i1 := 16) (L1 := [some (.inr (.inl v0)), none, some (.inr (.inl v2)), none, none, none, none, none, none, none, none, none, none]) (st1 := [.inr (.inl v2)]) rfl ?_
    refine X_calls m_M_isZero (As := [.inr (.inl v2)]) (st := []) ok_M_isZero rfl rfl rfl (Nat.le_of_ble_eq_true rfl) (Nat.le_of_ble_eq_true rfl) (c_M_isZero (d := d + 2) v2) ?_
    rintro _ _ ⟨rfl, rfl⟩
    show X _ _ 17 [some (.inr (.inl v0)), none, some (.inr (.inl v2)), none, none, none, none, none, none, none, none, none, none] [.inl (b2i (f_M_isZero v2))] _ _
    refine X_run 1 (i1 := cond (cn1 .eq (b2i (f_M_isZero v2))) 20 18) (L1 := [some (.inr (.inl v0)), none, some (.inr (.inl v2)), none, none, none, none, none, none, none, none, none, none]) (st1 := []) rfl ?_
    refine X_brq (fun hb17 => ?_) (fun hb17 => ?_)
    · exact ct_M_by_20 v0 v2
    · refine X_run 1 (i1 := 19) (L1 := [some (.inr (.inl v0)), none, some (.inr (.inl v2)), none, none, none, none, none, none, none, none, none, none]) (st1 := [.inr (.inl (9221120237041090560 : Int64))]) rfl ?_
      exact X_lret rfl rfl ⟨rfl, rfl⟩
def f_M_by (a0 : Int64) (a1 : Int64) : Int64 := (cond (cn1 .ne (b2i (f_M_isNo a0))) (9221120237041090560 : Int64) (cond (cn1 .ne (b2i (f_M_isNo a1))) (9221120237041090560 : Int64) (cond (cn1 .eq (b2i (f_M_isInfinite a0))) (t_M_by_12 a0 a1) (cond (cn1 .ne (b2i (f_M_isInfinite a1))) (9221120237041090560 : Int64) (t_M_by_12 a0 a1)))))
theorem c_M_by {d : Nat} {P : AP} (a0 : Int64) (a1 : Int64) : X m_M_by (d + 3) 0 (entL 13 [.inr (.inl a0), .inr (.inl a1)]) [] P (qL P (f_M_by a0 a1)) := by
  unfold f_M_by
  refine X_run 1 (i1 := 1) (L1 := [some (.inr (.inl a0)), none, some (.inr (.inl a1)), none, none, none, none, none, none, none, none, none, none]) (st1 := [.inr (.inl a0)]) rfl ?_
  refine X_calls m_M_isNo (As := [.inr (.inl a0)]) (st := []) ok_M_isNo rfl rfl rfl (Nat.le_of_ble_eq_true rfl) (Nat.le_of_ble_eq_true rfl) (c_M_isNo (d := d + 2) a0) ?_
  rintro _ _ ⟨rfl, rfl⟩
  show X _ _ 2 [some (.inr (.inl a0)), none, some (.inr (.inl a1)), none, none, none, none, none, none, none, none, none, none] [.inl (b2i (f_M_isNo a0))] _ _
  refine X_run 1 (i1 := cond (cn1 .ne (b2i (f_M_isNo a0))) 18 3) (L1 := [some (.inr (.inl a0)), none, some (.inr (.inl a1)), none, none, none, none, none, none, none, none, none, none]) (st1 := []) rfl ?_
  refine X_brq (fun hb2 => ?_) (fun hb2 => ?_)
  · refine X_run 1 (i1 := 19) (L1 := [some (.inr (.inl a0)), none, some (.inr (.inl a1)), none, none, none, none, none, none, none, none, none, none]) (st1 := [.inr (.inl (9221120237041090560 : Int64))]) rfl ?_
    exact X_lret rfl rfl ⟨rfl, rfl⟩
  · refine X_run 1 (i1 := 4) (L1 := [some (.inr (.inl a0)), none, some (.inr (.inl a1)), none, none, none, none, none, none, none, none, none, none]) (st1 := [.inr (.inl a1)]) rfl ?_
    refine X_calls m_M_isNo (As := [.inr (.inl a1)]) (st := []) ok_M_isNo rfl rfl rfl (Nat.le_of_ble_eq_true rfl) (Nat.le_of_ble_eq_true rfl) (c_M_isNo (d := d + 2) a1) ?_
    rintro _ _ ⟨rfl, rfl⟩
    show X _ _ 5 [some (.inr (.inl a0)), none, some (.inr (.inl a1)), none, none, none, none, none, none, none, none, none, none] [.inl (b2i (f_M_isNo a1))] _ _
    refine X_run 1 (i1 := cond (cn1 .ne (b2i (f_M_isNo a1))) 18 6) (L1 := [some (.inr (.inl a0)), none, some (.inr (.inl a1)), none, none, none, none, none, none, none, none, none, none]) (st1 := []) rfl ?_
    refine X_brq (fun hb5 => ?_) (fun hb5 => ?_)
    · refine X_run 1 (i1 := 19) (L1 := [some (.inr (.inl a0)), none, some (.inr (.inl a1)), none, none, none, none, none, none, none, none, none, none]) (st1 := [.inr (.inl (9221120237041090560 : Int64))]) rfl ?_
      exact X_lret rfl rfl ⟨rfl, rfl⟩
    · refine X_run 1 (i1 := 7) (L1 := [some (.inr (.inl a0)), none, some (.inr (.inl a1)), none, none, none, none, none, none, none, none, none, none]) (st1 := [.inr (.inl a0)]) rfl ?_
      refine X_calls m_M_isInfinite (As := [.inr (.inl a0)]) (st := []) ok_M_isInfinite rfl rfl rfl (Nat.le_of_ble_eq_true rfl) (Nat.le_of_ble_eq_true rfl) (c_M_isInfinite (d := d + 2) a0) ?_
      rintro _ _ ⟨rfl, rfl⟩
      show X _ _ 8 [some (.inr (.inl a0)), none, some (.inr (.inl a1)), none, none, none, none, none, none, none, none, none, none] [.inl (b2i (f_M_isInfinite a0))] _ _
      refine X_run 1 (i1 := cond (cn1 .eq (b2i (f_M_isInfinite a0))) 12 9) (L1 := [some (.inr (.inl a0)), none, some (.inr (.inl a1)), none, none, none, none, none, none, none, none, none, none]) (st1 := []) rfl ?_
      refine X_brq (fun hb8 => ?_) (fun hb8 => ?_)
      · exact ct_M_by_12 a0 a1
      · refine X_run 1 (i1 := 10) (L1 := [some (.inr (.inl a0)), none, some (.inr (.inl a1)), none, none, none, none, none, none, none, none, none, none]) (st1 := [.inr (.inl a1)]) rfl ?_
        refine X_calls m_M_isInfinite (As := [.inr (.inl a1)]) (st := []) ok_M_isInfinite rfl rfl rfl (Nat.le_of_ble_eq_true rfl) (Nat.le_of_ble_eq_true rfl) (c_M_isInfinite (d := d + 2) a1) ?_
        rintro _ _ ⟨rfl, rfl⟩
        show X _ _ 11 [some (.inr (.inl a0)), none, some (.inr (.inl a1)), none, none, none, none, none, none, none, none, none, none] [.inl (b2i (f_M_isInfinite a1))] _ _
        refine X_run 1 (i1 := cond (cn1 .ne (b2i (f_M_isInfinite a1))) 18 12) (L1 := [some (.inr (.inl a0)), none, some (.inr (.inl a1)), none, none, none, none, none, none, none, none, none, none]) (st1 := []) rfl ?_
        refine X_brq (fun hb11 => ?_) (fun hb11 => ?_)
        · refine X_run 1 (i1 := 19) (L1 := [some (.inr (.inl a0)), none, some (.inr (.inl a1)), none, none, none, none, none, none, none, none, none, none]) (st1 := [.inr (.inl (9221120237041090560 : Int64))]) rfl ?_
          exact X_lret rfl rfl ⟨rfl, rfl⟩
        · exact ct_M_by_12 a0 a1
def t_M_left_96 (v4 : Int64) (v9 : Int32) (w0 : Int32) : Int64 := (f_M_signed w0 v4 v9 (0 : Int32))
theorem ct_M_left_96 {d : Nat} {P : AP} (v4 : Int64) (v9 : Int32) (w0 : Int32) : X m_M_left (d + 3) 96 [none, none, none, none, some (.inr (.inl v4)), none, none, none, none, some (.inl v9), none] [.inl w0] P (qL P (t_M_left_96 v4 v9 w0)) := by
  unfold t_M_left_96
  refine X_run 3 (i1 := 99) (L1 := [none, none, none, none, some (.inr (.inl v4)), none, none, none, none, some (.inl v9), none]) (st1 := [.inl (0 : Int32), .inl v9, .inr (.inl v4), .inl w0]) rfl ?_
  refine X_calls m_M_signed (As := [.inl w0, .inr (.inl v4), .inl v9, .inl (0 : Int32)]) (st := []) ok_M_signed rfl rfl rfl (Nat.le_of_ble_eq_true rfl) (Nat.le_of_ble_eq_true rfl) (c_M_signed (d := d) w0 v4 v9 (0 : Int32)) ?_
  rintro _ _ ⟨rfl, rfl⟩
  show X _ _ 100 [none, none, none, none, some (.inr (.inl v4)), none, none, none, none, some (.inl v9), none] [.inr (.inl (f_M_signed w0 v4 v9 (0 : Int32)))] _ _
  exact X_lret rfl rfl ⟨rfl, rfl⟩
def t_M_left_63 : Nat → Int64 → Int64 → Int64 → Int32 → Int32 → Int64
  | 0, _, _, _, _, _ => 0
  | n + 1, v0, v4, v6, v9, v10 => (cond (cn1 .lt v10) (cond (cn1 .ne (lg_cmp v4 (0 : Int64))) (cond (cn1 .ge (lg_cmp v0 (0 : Int64))) (t_M_left_96 v4 v9 (0 : Int32)) (t_M_left_96 v4 v9 (1 : Int32))) (v0 &&& (-9223372036854775808 : Int64))) (cond (cn1 .lt (lg_cmp v4 v6)) (cond (cn1 .le v10) (t_M_left_63 n v0 v4 v6 v9 (v10 + Int32.ofInt (-1))) (t_M_left_63 n v0 (v4 <<< (Int32.toInt64 (1 : Int32) &&& 63)) v6 v9 (v10 + Int32.ofInt (-1)))) (cond (cn1 .le v10) (t_M_left_63 n v0 (v4 - v6) v6 v9 (v10 + Int32.ofInt (-1))) (t_M_left_63 n v0 ((v4 - v6) <<< (Int32.toInt64 (1 : Int32) &&& 63)) v6 v9 (v10 + Int32.ofInt (-1))))))
theorem ct_M_left_63 {d : Nat} {P : AP} : ∀ (n : Nat) (v0 : Int64) (v4 : Int64) (v6 : Int64) (v9 : Int32) (v10 : Int32), 0 < n ∧ v10.toInt + 1 < n → X m_M_left (d + 3) 63 [some (.inr (.inl v0)), none, none, none, some (.inr (.inl v4)), none, some (.inr (.inl v6)), none, none, some (.inl v9), some (.inl v10)] [] P (qL P (t_M_left_63 n v0 v4 v6 v9 v10))
  | 0, v0, v4, v6, v9, v10, hI => by exfalso; omega
  | n + 1, v0, v4, v6, v9, v10, hI => by
    have ih := @ct_M_left_63 d P n
    unfold t_M_left_63
    refine X_run 2 (i1 := cond (cn1 .lt v10) 81 65) (L1 := [some (.inr (.inl v0)), none, none, none, some (.inr (.inl v4)), none, some (.inr (.inl v6)), none, none, some (.inl v9), some (.inl v10)]) (st1 := []) rfl ?_
    refine X_brq (fun hb64 => ?_) (fun hb64 => ?_)
    · refine X_run 4 (i1 := cond (cn1 .ne (lg_cmp v4 (0 : Int64))) 89 85) (L1 := [some (.inr (.inl v0)), none, none, none, some (.inr (.inl v4)), none, some (.inr (.inl v6)), none, none, some (.inl v9), some (.inl v10)]) (st1 := []) rfl ?_
      refine X_brq (fun hb84 => ?_) (fun hb84 => ?_)
      · refine X_run 4 (i1 := cond (cn1 .ge (lg_cmp v0 (0 : Int64))) 95 93) (L1 := [some (.inr (.inl v0)), none, none, none, some (.inr (.inl v4)), none, some (.inr (.inl v6)), none, none, some (.inl v9), some (.inl v10)]) (st1 := []) rfl ?_
        refine X_brq (fun hb92 => ?_) (fun hb92 => ?_)
        · refine X_run 1 (i1 := 96) (L1 := [some (.inr (.inl v0)), none, none, none, some (.inr (.inl v4)), none, some (.inr (.inl v6)), none, none, some (.inl v9), some (.inl v10)]) (st1 := [.inl (0 : Int32)]) rfl ?_
          refine X_mask [false, true, true, true, true, true, false, true, true, true, false] ?_
          exact ct_M_left_96 v4 v9 (0 : Int32)
        · refine X_run 2 (i1 := 96) (L1 := [some (.inr (.inl v0)), none, none, none, some (.inr (.inl v4)), none, some (.inr (.inl v6)), none, none, some (.inl v9), some (.inl v10)]) (st1 := [.inl (1 : Int32)]) rfl ?_
          refine X_mask [false, true, true, true, true, true, false, true, true, true, false] ?_
          exact ct_M_left_96 v4 v9 (1 : Int32)
      · refine X_run 4 (i1 := 100) (L1 := [some (.inr (.inl v0)), none, none, none, some (.inr (.inl v4)), none, some (.inr (.inl v6)), none, none, some (.inl v9), some (.inl v10)]) (st1 := [.inr (.inl (v0 &&& (-9223372036854775808 : Int64)))]) rfl ?_
        exact X_lret rfl rfl ⟨rfl, rfl⟩
    · refine X_run 4 (i1 := cond (cn1 .lt (lg_cmp v4 v6)) 73 69) (L1 := [some (.inr (.inl v0)), none, none, none, some (.inr (.inl v4)), none, some (.inr (.inl v6)), none, none, some (.inl v9), some (.inl v10)]) (st1 := []) rfl ?_
      refine X_brq (fun hb68 => ?_) (fun hb68 => ?_)
      · refine X_run 2 (i1 := cond (cn1 .le v10) 79 75) (L1 := [some (.inr (.inl v0)), none, none, none, some (.inr (.inl v4)), none, some (.inr (.inl v6)), none, none, some (.inl v9), some (.inl v10)]) (st1 := []) rfl ?_
        refine X_brq (fun hb74 => ?_) (fun hb74 => ?_)
        · refine X_run 2 (i1 := 63) (L1 := [some (.inr (.inl v0)), none, none, none, some (.inr (.inl v4)), none, some (.inr (.inl v6)), none, none, some (.inl v9), some (.inl (v10 + Int32.ofInt (-1)))]) (st1 := []) rfl ?_
          exact ih v0 v4 v6 v9 (v10 + Int32.ofInt (-1)) (by have h1 := j_lt_f hb64; have h3 := i_add (x := v10) (-1) (by omega) (by have := v10.toInt_lt; omega) (by omega) (by omega); exact ⟨by omega, by omega⟩)
        · refine X_run 6 (i1 := 63) (L1 := [some (.inr (.inl v0)), none, none, none, some (.inr (.inl (v4 <<< (Int32.toInt64 (1 : Int32) &&& 63)))), none, some (.inr (.inl v6)), none, none, some (.inl v9), some (.inl (v10 + Int32.ofInt (-1)))]) (st1 := []) rfl ?_
          exact ih v0 (v4 <<< (Int32.toInt64 (1 : Int32) &&& 63)) v6 v9 (v10 + Int32.ofInt (-1)) (by have h1 := j_lt_f hb64; have h3 := i_add (x := v10) (-1) (by omega) (by have := v10.toInt_lt; omega) (by omega) (by omega); exact ⟨by omega, by omega⟩)
      · refine X_run 6 (i1 := cond (cn1 .le v10) 79 75) (L1 := [some (.inr (.inl v0)), none, none, none, some (.inr (.inl (v4 - v6))), none, some (.inr (.inl v6)), none, none, some (.inl v9), some (.inl v10)]) (st1 := []) rfl ?_
        refine X_brq (fun hb74 => ?_) (fun hb74 => ?_)
        · refine X_run 2 (i1 := 63) (L1 := [some (.inr (.inl v0)), none, none, none, some (.inr (.inl (v4 - v6))), none, some (.inr (.inl v6)), none, none, some (.inl v9), some (.inl (v10 + Int32.ofInt (-1)))]) (st1 := []) rfl ?_
          exact ih v0 (v4 - v6) v6 v9 (v10 + Int32.ofInt (-1)) (by have h1 := j_lt_f hb64; have h3 := i_add (x := v10) (-1) (by omega) (by have := v10.toInt_lt; omega) (by omega) (by omega); exact ⟨by omega, by omega⟩)
        · refine X_run 6 (i1 := 63) (L1 := [some (.inr (.inl v0)), none, none, none, some (.inr (.inl ((v4 - v6) <<< (Int32.toInt64 (1 : Int32) &&& 63)))), none, some (.inr (.inl v6)), none, none, some (.inl v9), some (.inl (v10 + Int32.ofInt (-1)))]) (st1 := []) rfl ?_
          exact ih v0 ((v4 - v6) <<< (Int32.toInt64 (1 : Int32) &&& 63)) v6 v9 (v10 + Int32.ofInt (-1)) (by have h1 := j_lt_f hb64; have h3 := i_add (x := v10) (-1) (by omega) (by have := v10.toInt_lt; omega) (by omega) (by omega); exact ⟨by omega, by omega⟩)
def t_M_left_44 : Nat → Int64 → Int64 → Int64 → Int32 → Int32 → Int64
  | 0, _, _, _, _, _ => 0
  | n + 1, v0, v4, v6, v8, v9 => (cond (cn1 .ge (lg_cmp v6 (4503599627370496 : Int64))) (cond (cn2 .ge v8 v9) (t_M_left_63 ((Int32.toInt (v8 - v9)).toNat + 2) v0 v4 v6 v9 (v8 - v9)) v0) (t_M_left_44 n v0 v4 (v6 <<< (Int32.toInt64 (1 : Int32) &&& 63)) v8 (v9 + Int32.ofInt (-1))))
theorem ct_M_left_44 {d : Nat} {P : AP} : ∀ (n : Nat) (v0 : Int64) (v4 : Int64) (v6 : Int64) (v8 : Int32) (v9 : Int32), NZ n v6 → X m_M_left (d + 3) 44 [some (.inr (.inl v0)), none, none, none, some (.inr (.inl v4)), none, some (.inr (.inl v6)), none, some (.inl v8), some (.inl v9), none] [] P (qL P (t_M_left_44 n v0 v4 v6 v8 v9))
  | 0, v0, v4, v6, v8, v9, hI => by exact hI.no.elim
  | n + 1, v0, v4, v6, v8, v9, hI => by
    have ih := @ct_M_left_44 d P n
    unfold t_M_left_44
    refine X_run 4 (i1 := cond (cn1 .ge (lg_cmp v6 (4503599627370496 : Int64))) 54 48) (L1 := [some (.inr (.inl v0)), none, none, none, some (.inr (.inl v4)), none, some (.inr (.inl v6)), none, some (.inl v8), some (.inl v9), none]) (st1 := []) rfl ?_
    refine X_brq (fun hb47 => ?_) (fun hb47 => ?_)
    · refine X_run 3 (i1 := cond (cn2 .ge v8 v9) 59 57) (L1 := [some (.inr (.inl v0)), none, none, none, some (.inr (.inl v4)), none, some (.inr (.inl v6)), none, some (.inl v8), some (.inl v9), none]) (st1 := []) rfl ?_
      refine X_brq (fun hb56 => ?_) (fun hb56 => ?_)
      · refine X_run 4 (i1 := 63) (L1 := [some (.inr (.inl v0)), none, none, none, some (.inr (.inl v4)), none, some (.inr (.inl v6)), none, some (.inl v8), some (.inl v9), some (.inl (v8 - v9))]) (st1 := []) rfl ?_
        refine X_mask [true, true, true, true, true, true, true, true, false, true, true] ?_
        exact ct_M_left_63 ((Int32.toInt (v8 - v9)).toNat + 2) v0 v4 v6 v9 (v8 - v9) (by exact ⟨by omega, by omega⟩)
      · refine X_run 1 (i1 := 58) (L1 := [some (.inr (.inl v0)), none, none, none, some (.inr (.inl v4)), none, some (.inr (.inl v6)), none, some (.inl v8), some (.inl v9), none]) (st1 := [.inr (.inl v0)]) rfl ?_
        exact X_lret rfl rfl ⟨rfl, rfl⟩
    · refine X_run 6 (i1 := 44) (L1 := [some (.inr (.inl v0)), none, none, none, some (.inr (.inl v4)), none, some (.inr (.inl (v6 <<< (Int32.toInt64 (1 : Int32) &&& 63)))), none, some (.inl v8), some (.inl (v9 + Int32.ofInt (-1))), none]) (st1 := []) rfl ?_
      exact ih v0 v4 (v6 <<< (Int32.toInt64 (1 : Int32) &&& 63)) v8 (v9 + Int32.ofInt (-1)) (by exact hI.up hb47)
def t_M_left_34 : Nat → Int64 → Int64 → Int64 → Int32 → Int32 → Int64
  | 0, _, _, _, _, _ => 0
  | n + 1, v0, v4, v6, v8, v9 => (cond (cn1 .ge (lg_cmp v4 (4503599627370496 : Int64))) (t_M_left_44 53 v0 v4 v6 v8 v9) (t_M_left_34 n v0 (v4 <<< (Int32.toInt64 (1 : Int32) &&& 63)) v6 (v8 + Int32.ofInt (-1)) v9))
theorem ct_M_left_34 {d : Nat} {P : AP} : ∀ (n : Nat) (v0 : Int64) (v4 : Int64) (v6 : Int64) (v8 : Int32) (v9 : Int32), NZ n v4 ∧ NZ 53 v6 → X m_M_left (d + 3) 34 [some (.inr (.inl v0)), none, none, none, some (.inr (.inl v4)), none, some (.inr (.inl v6)), none, some (.inl v8), some (.inl v9), none] [] P (qL P (t_M_left_34 n v0 v4 v6 v8 v9))
  | 0, v0, v4, v6, v8, v9, hI => by exact hI.1.no.elim
  | n + 1, v0, v4, v6, v8, v9, hI => by
    have ih := @ct_M_left_34 d P n
    unfold t_M_left_34
    refine X_run 4 (i1 := cond (cn1 .ge (lg_cmp v4 (4503599627370496 : Int64))) 44 38) (L1 := [some (.inr (.inl v0)), none, none, none, some (.inr (.inl v4)), none, some (.inr (.inl v6)), none, some (.inl v8), some (.inl v9), none]) (st1 := []) rfl ?_
    refine X_brq (fun hb37 => ?_) (fun hb37 => ?_)
    · exact ct_M_left_44 53 v0 v4 v6 v8 v9 (by exact hI.2)
    · refine X_run 6 (i1 := 34) (L1 := [some (.inr (.inl v0)), none, none, none, some (.inr (.inl (v4 <<< (Int32.toInt64 (1 : Int32) &&& 63)))), none, some (.inr (.inl v6)), none, some (.inl (v8 + Int32.ofInt (-1))), some (.inl v9), none]) (st1 := []) rfl ?_
      exact ih v0 (v4 <<< (Int32.toInt64 (1 : Int32) &&& 63)) v6 (v8 + Int32.ofInt (-1)) v9 (by exact ⟨hI.1.up hb37, hI.2⟩)
def f_M_left (a0 : Int64) (a1 : Int64) : Int64 := (cond (cn1 .ne (b2i (f_M_isNo a0))) (9221120237041090560 : Int64) (cond (cn1 .ne (b2i (f_M_isNo a1))) (9221120237041090560 : Int64) (cond (cn1 .ne (b2i (f_M_isInfinite a0))) (9221120237041090560 : Int64) (cond (cn1 .eq (b2i (f_M_isZero a1))) (cond (cn1 .ne (b2i (f_M_isInfinite a1))) a0 (cond (cn1 .eq (b2i (f_M_isZero a0))) (t_M_left_34 53 a0 (f_M_mantissa a0) (f_M_mantissa a1) (f_M_power a0) (f_M_power a1)) a0)) (9221120237041090560 : Int64)))))
theorem c_M_left {d : Nat} {P : AP} (a0 : Int64) (a1 : Int64) : X m_M_left (d + 3) 0 (entL 11 [.inr (.inl a0), .inr (.inl a1)]) [] P (qL P (f_M_left a0 a1)) := by
  unfold f_M_left
  refine X_run 1 (i1 := 1) (L1 := [some (.inr (.inl a0)), none, some (.inr (.inl a1)), none, none, none, none, none, none, none, none]) (st1 := [.inr (.inl a0)]) rfl ?_
  refine X_calls m_M_isNo (As := [.inr (.inl a0)]) (st := []) ok_M_isNo rfl rfl rfl (Nat.le_of_ble_eq_true rfl) (Nat.le_of_ble_eq_true rfl) (c_M_isNo (d := d + 2) a0) ?_
  rintro _ _ ⟨rfl, rfl⟩
  show X _ _ 2 [some (.inr (.inl a0)), none, some (.inr (.inl a1)), none, none, none, none, none, none, none, none] [.inl (b2i (f_M_isNo a0))] _ _
  refine X_run 1 (i1 := cond (cn1 .ne (b2i (f_M_isNo a0))) 12 3) (L1 := [some (.inr (.inl a0)), none, some (.inr (.inl a1)), none, none, none, none, none, none, none, none]) (st1 := []) rfl ?_
  refine X_brq (fun hb2 => ?_) (fun hb2 => ?_)
  · refine X_run 1 (i1 := 13) (L1 := [some (.inr (.inl a0)), none, some (.inr (.inl a1)), none, none, none, none, none, none, none, none]) (st1 := [.inr (.inl (9221120237041090560 : Int64))]) rfl ?_
    exact X_lret rfl rfl ⟨rfl, rfl⟩
  · refine X_run 1 (i1 := 4) (L1 := [some (.inr (.inl a0)), none, some (.inr (.inl a1)), none, none, none, none, none, none, none, none]) (st1 := [.inr (.inl a1)]) rfl ?_
    refine X_calls m_M_isNo (As := [.inr (.inl a1)]) (st := []) ok_M_isNo rfl rfl rfl (Nat.le_of_ble_eq_true rfl) (Nat.le_of_ble_eq_true rfl) (c_M_isNo (d := d + 2) a1) ?_
    rintro _ _ ⟨rfl, rfl⟩
    show X _ _ 5 [some (.inr (.inl a0)), none, some (.inr (.inl a1)), none, none, none, none, none, none, none, none] [.inl (b2i (f_M_isNo a1))] _ _
    refine X_run 1 (i1 := cond (cn1 .ne (b2i (f_M_isNo a1))) 12 6) (L1 := [some (.inr (.inl a0)), none, some (.inr (.inl a1)), none, none, none, none, none, none, none, none]) (st1 := []) rfl ?_
    refine X_brq (fun hb5 => ?_) (fun hb5 => ?_)
    · refine X_run 1 (i1 := 13) (L1 := [some (.inr (.inl a0)), none, some (.inr (.inl a1)), none, none, none, none, none, none, none, none]) (st1 := [.inr (.inl (9221120237041090560 : Int64))]) rfl ?_
      exact X_lret rfl rfl ⟨rfl, rfl⟩
    · refine X_run 1 (i1 := 7) (L1 := [some (.inr (.inl a0)), none, some (.inr (.inl a1)), none, none, none, none, none, none, none, none]) (st1 := [.inr (.inl a0)]) rfl ?_
      refine X_calls m_M_isInfinite (As := [.inr (.inl a0)]) (st := []) ok_M_isInfinite rfl rfl rfl (Nat.le_of_ble_eq_true rfl) (Nat.le_of_ble_eq_true rfl) (c_M_isInfinite (d := d + 2) a0) ?_
      rintro _ _ ⟨rfl, rfl⟩
      show X _ _ 8 [some (.inr (.inl a0)), none, some (.inr (.inl a1)), none, none, none, none, none, none, none, none] [.inl (b2i (f_M_isInfinite a0))] _ _
      refine X_run 1 (i1 := cond (cn1 .ne (b2i (f_M_isInfinite a0))) 12 9) (L1 := [some (.inr (.inl a0)), none, some (.inr (.inl a1)), none, none, none, none, none, none, none, none]) (st1 := []) rfl ?_
      refine X_brq (fun hb8 => ?_) (fun hb8 => ?_)
      · refine X_run 1 (i1 := 13) (L1 := [some (.inr (.inl a0)), none, some (.inr (.inl a1)), none, none, none, none, none, none, none, none]) (st1 := [.inr (.inl (9221120237041090560 : Int64))]) rfl ?_
        exact X_lret rfl rfl ⟨rfl, rfl⟩
      · refine X_run 1 (i1 := 10) (L1 := [some (.inr (.inl a0)), none, some (.inr (.inl a1)), none, none, none, none, none, none, none, none]) (st1 := [.inr (.inl a1)]) rfl ?_
        refine X_calls m_M_isZero (As := [.inr (.inl a1)]) (st := []) ok_M_isZero rfl rfl rfl (Nat.le_of_ble_eq_true rfl) (Nat.le_of_ble_eq_true rfl) (c_M_isZero (d := d + 2) a1) ?_
        rintro _ _ ⟨rfl, rfl⟩
        show X _ _ 11 [some (.inr (.inl a0)), none, some (.inr (.inl a1)), none, none, none, none, none, none, none, none] [.inl (b2i (f_M_isZero a1))] _ _
        refine X_run 1 (i1 := cond (cn1 .eq (b2i (f_M_isZero a1))) 14 12) (L1 := [some (.inr (.inl a0)), none, some (.inr (.inl a1)), none, none, none, none, none, none, none, none]) (st1 := []) rfl ?_
        refine X_brq (fun hb11 => ?_) (fun hb11 => ?_)
        · refine X_run 1 (i1 := 15) (L1 := [some (.inr (.inl a0)), none, some (.inr (.inl a1)), none, none, none, none, none, none, none, none]) (st1 := [.inr (.inl a1)]) rfl ?_
          refine X_calls m_M_isInfinite (As := [.inr (.inl a1)]) (st := []) ok_M_isInfinite rfl rfl rfl (Nat.le_of_ble_eq_true rfl) (Nat.le_of_ble_eq_true rfl) (c_M_isInfinite (d := d + 2) a1) ?_
          rintro _ _ ⟨rfl, rfl⟩
          show X _ _ 16 [some (.inr (.inl a0)), none, some (.inr (.inl a1)), none, none, none, none, none, none, none, none] [.inl (b2i (f_M_isInfinite a1))] _ _
          refine X_run 1 (i1 := cond (cn1 .ne (b2i (f_M_isInfinite a1))) 20 17) (L1 := [some (.inr (.inl a0)), none, some (.inr (.inl a1)), none, none, none, none, none, none, none, none]) (st1 := []) rfl ?_
          refine X_brq (fun hb16 => ?_) (fun hb16 => ?_)
          · refine X_run 1 (i1 := 21) (L1 := [some (.inr (.inl a0)), none, some (.inr (.inl a1)), none, none, none, none, none, none, none, none]) (st1 := [.inr (.inl a0)]) rfl ?_
            exact X_lret rfl rfl ⟨rfl, rfl⟩
          · refine X_run 1 (i1 := 18) (L1 := [some (.inr (.inl a0)), none, some (.inr (.inl a1)), none, none, none, none, none, none, none, none]) (st1 := [.inr (.inl a0)]) rfl ?_
            refine X_calls m_M_isZero (As := [.inr (.inl a0)]) (st := []) ok_M_isZero rfl rfl rfl (Nat.le_of_ble_eq_true rfl) (Nat.le_of_ble_eq_true rfl) (c_M_isZero (d := d + 2) a0) ?_
            rintro _ _ ⟨rfl, rfl⟩
            show X _ _ 19 [some (.inr (.inl a0)), none, some (.inr (.inl a1)), none, none, none, none, none, none, none, none] [.inl (b2i (f_M_isZero a0))] _ _
            refine X_run 1 (i1 := cond (cn1 .eq (b2i (f_M_isZero a0))) 22 20) (L1 := [some (.inr (.inl a0)), none, some (.inr (.inl a1)), none, none, none, none, none, none, none, none]) (st1 := []) rfl ?_
            refine X_brq (fun hb19 => ?_) (fun hb19 => ?_)
            · refine X_run 1 (i1 := 23) (L1 := [some (.inr (.inl a0)), none, some (.inr (.inl a1)), none, none, none, none, none, none, none, none]) (st1 := [.inr (.inl a0)]) rfl ?_
              refine X_calls m_M_mantissa (As := [.inr (.inl a0)]) (st := []) ok_M_mantissa rfl rfl rfl (Nat.le_of_ble_eq_true rfl) (Nat.le_of_ble_eq_true rfl) (c_M_mantissa (d := d + 2) a0) ?_
              rintro _ _ ⟨rfl, rfl⟩
              show X _ _ 24 [some (.inr (.inl a0)), none, some (.inr (.inl a1)), none, none, none, none, none, none, none, none] [.inr (.inl (f_M_mantissa a0))] _ _
              refine X_run 2 (i1 := 26) (L1 := [some (.inr (.inl a0)), none, some (.inr (.inl a1)), none, some (.inr (.inl (f_M_mantissa a0))), none, none, none, none, none, none]) (st1 := [.inr (.inl a1)]) rfl ?_
              refine X_calls m_M_mantissa (As := [.inr (.inl a1)]) (st := []) ok_M_mantissa rfl rfl rfl (Nat.le_of_ble_eq_true rfl) (Nat.le_of_ble_eq_true rfl) (c_M_mantissa (d := d + 2) a1) ?_
              rintro _ _ ⟨rfl, rfl⟩
              show X _ _ 27 [some (.inr (.inl a0)), none, some (.inr (.inl a1)), none, some (.inr (.inl (f_M_mantissa a0))), none, none, none, none, none, none] [.inr (.inl (f_M_mantissa a1))] _ _
              refine X_run 2 (i1 := 29) (L1 := [some (.inr (.inl a0)), none, some (.inr (.inl a1)), none, some (.inr (.inl (f_M_mantissa a0))), none, some (.inr (.inl (f_M_mantissa a1))), none, none, none, none]) (st1 := [.inr (.inl a0)]) rfl ?_
              refine X_calls m_M_power (As := [.inr (.inl a0)]) (st := []) ok_M_power rfl rfl rfl (Nat.le_of_ble_eq_true rfl) (Nat.le_of_ble_eq_true rfl) (c_M_power (d := d + 2) a0) ?_
              rintro _ _ ⟨rfl, rfl⟩
              show X _ _ 30 [some (.inr (.inl a0)), none, some (.inr (.inl a1)), none, some (.inr (.inl (f_M_mantissa a0))), none, some (.inr (.inl (f_M_mantissa a1))), none, none, none, none] [.inl (f_M_power a0)] _ _
              refine X_run 2 (i1 := 32) (L1 := [some (.inr (.inl a0)), none, some (.inr (.inl a1)), none, some (.inr (.inl (f_M_mantissa a0))), none, some (.inr (.inl (f_M_mantissa a1))), none, some (.inl (f_M_power a0)), none, none]) (st1 := [.inr (.inl a1)]) rfl ?_
              refine X_calls m_M_power (As := [.inr (.inl a1)]) (st := []) ok_M_power rfl rfl rfl (Nat.le_of_ble_eq_true rfl) (Nat.le_of_ble_eq_true rfl) (c_M_power (d := d + 2) a1) ?_
              rintro _ _ ⟨rfl, rfl⟩
              show X _ _ 33 [some (.inr (.inl a0)), none, some (.inr (.inl a1)), none, some (.inr (.inl (f_M_mantissa a0))), none, some (.inr (.inl (f_M_mantissa a1))), none, some (.inl (f_M_power a0)), none, none] [.inl (f_M_power a1)] _ _
              refine X_run 1 (i1 := 34) (L1 := [some (.inr (.inl a0)), none, some (.inr (.inl a1)), none, some (.inr (.inl (f_M_mantissa a0))), none, some (.inr (.inl (f_M_mantissa a1))), none, some (.inl (f_M_power a0)), some (.inl (f_M_power a1)), none]) (st1 := []) rfl ?_
              refine X_mask [true, true, false, true, true, true, true, true, true, true, true] ?_
              exact ct_M_left_34 53 a0 (f_M_mantissa a0) (f_M_mantissa a1) (f_M_power a0) (f_M_power a1) (by exact ⟨nz_mant (zf_eq hb19), nz_mant (zf_eq hb11)⟩)
            · refine X_run 1 (i1 := 21) (L1 := [some (.inr (.inl a0)), none, some (.inr (.inl a1)), none, none, none, none, none, none, none, none]) (st1 := [.inr (.inl a0)]) rfl ?_
              exact X_lret rfl rfl ⟨rfl, rfl⟩
        · refine X_run 1 (i1 := 13) (L1 := [some (.inr (.inl a0)), none, some (.inr (.inl a1)), none, none, none, none, none, none, none, none]) (st1 := [.inr (.inl (9221120237041090560 : Int64))]) rfl ?_
          exact X_lret rfl rfl ⟨rfl, rfl⟩
def t_M_root_107 (w0 : Int32) (w1 : Int32) (w2 : Int64) (w3 : Int32) : Int64 := (f_M_signed w3 w2 w1 w0)
theorem ct_M_root_107 {d : Nat} {P : AP} (w0 : Int32) (w1 : Int32) (w2 : Int64) (w3 : Int32) : X m_M_root (d + 3) 107 [none, none, none, none, none, none, none, none, none, none, none, none] [.inl w0, .inl w1, .inr (.inl w2), .inl w3] P (qL P (t_M_root_107 w0 w1 w2 w3)) := by
  unfold t_M_root_107
  refine X_calls m_M_signed (As := [.inl w3, .inr (.inl w2), .inl w1, .inl w0]) (st := []) ok_M_signed rfl rfl rfl (Nat.le_of_ble_eq_true rfl) (Nat.le_of_ble_eq_true rfl) (c_M_signed (d := d) w3 w2 w1 w0) ?_
  rintro _ _ ⟨rfl, rfl⟩
  show X _ _ 108 [none, none, none, none, none, none, none, none, none, none, none, none] [.inr (.inl (f_M_signed w3 w2 w1 w0))] _ _
  exact X_lret rfl rfl ⟨rfl, rfl⟩
def t_M_root_50 : Nat → Int64 → Int32 → Int64 → Int64 → Int32 → Int64
  | 0, _, _, _, _, _ => 0
  | n + 1, v2, v4, v5, v7, v9 => (cond (cn2 .lt v9 (-30 : Int32)) (cond (cn1 .eq (lg_cmp v5 (0 : Int64))) (t_M_root_107 (0 : Int32) ((v4 / (2 : Int32)) - (30 : Int32)) v7 (0 : Int32)) (t_M_root_107 (1 : Int32) ((v4 / (2 : Int32)) - (30 : Int32)) v7 (0 : Int32))) (cond (cn1 .ge v9) (cond (cn1 .lt (lg_cmp ((v5 <<< (Int32.toInt64 (2 : Int32) &&& 63)) ||| (((Int64.toUInt64 v2 >>> (Int64.toUInt64 (Int32.toInt64 ((2 : Int32) * v9)) &&& Int64.toUInt64 63)).toInt64) &&& (3 : Int64))) ((v7 <<< (Int32.toInt64 (2 : Int32) &&& 63)) ||| (1 : Int64)))) (t_M_root_50 n v2 v4 ((v5 <<< (Int32.toInt64 (2 : Int32) &&& 63)) ||| (((Int64.toUInt64 v2 >>> (Int64.toUInt64 (Int32.toInt64 ((2 : Int32) * v9)) &&& Int64.toUInt64 63)).toInt64) &&& (3 : Int64))) (v7 <<< (Int32.toInt64 (1 : Int32) &&& 63)) (v9 + Int32.ofInt (-1))) (t_M_root_50 n v2 v4 (((v5 <<< (Int32.toInt64 (2 : Int32) &&& 63)) ||| (((Int64.toUInt64 v2 >>> (Int64.toUInt64 (Int32.toInt64 ((2 : Int32) * v9)) &&& Int64.toUInt64 63)).toInt64) &&& (3 : Int64))) - ((v7 <<< (Int32.toInt64 (2 : Int32) &&& 63)) ||| (1 : Int64))) ((v7 <<< (Int32.toInt64 (1 : Int32) &&& 63)) + (1 : Int64)) (v9 + Int32.ofInt (-1)))) (cond (cn1 .lt (lg_cmp ((v5 <<< (Int32.toInt64 (2 : Int32) &&& 63)) ||| (0 : Int64)) ((v7 <<< (Int32.toInt64 (2 : Int32) &&& 63)) ||| (1 : Int64)))) (t_M_root_50 n v2 v4 ((v5 <<< (Int32.toInt64 (2 : Int32) &&& 63)) ||| (0 : Int64)) (v7 <<< (Int32.toInt64 (1 : Int32) &&& 63)) (v9 + Int32.ofInt (-1))) (t_M_root_50 n v2 v4 (((v5 <<< (Int32.toInt64 (2 : Int32) &&& 63)) ||| (0 : Int64)) - ((v7 <<< (Int32.toInt64 (2 : Int32) &&& 63)) ||| (1 : Int64))) ((v7 <<< (Int32.toInt64 (1 : Int32) &&& 63)) + (1 : Int64)) (v9 + Int32.ofInt (-1))))))
theorem ct_M_root_50 {d : Nat} {P : AP} : ∀ (n : Nat) (v2 : Int64) (v4 : Int32) (v5 : Int64) (v7 : Int64) (v9 : Int32), -31 ≤ v9.toInt ∧ v9.toInt ≤ 26 ∧ v9.toInt + 31 < n → X m_M_root (d + 3) 50 [none, none, some (.inr (.inl v2)), none, some (.inl v4), some (.inr (.inl v5)), none, some (.inr (.inl v7)), none, some (.inl v9), none, none] [] P (qL P (t_M_root_50 n v2 v4 v5 v7 v9))
  | 0, v2, v4, v5, v7, v9, hI => by exfalso; omega
  | n + 1, v2, v4, v5, v7, v9, hI => by
    have ih := @ct_M_root_50 d P n
    unfold t_M_root_50
    refine X_run 3 (i1 := cond (cn2 .lt v9 (-30 : Int32)) 93 53) (L1 := [none, none, some (.inr (.inl v2)), none, some (.inl v4), some (.inr (.inl v5)), none, some (.inr (.inl v7)), none, some (.inl v9), none, none]) (st1 := []) rfl ?_
    refine X_brq (fun hb52 => ?_) (fun hb52 => ?_)
    · refine X_run 11 (i1 := cond (cn1 .eq (lg_cmp v5 (0 : Int64))) 106 104) (L1 := [none, none, some (.inr (.inl v2)), none, some (.inl v4), some (.inr (.inl v5)), none, some (.inr (.inl v7)), none, some (.inl v9), none, none]) (st1 := [.inl ((v4 / (2 : Int32)) - (30 : Int32)), .inr (.inl v7), .inl (0 : Int32)]) rfl ?_
      refine X_brq (fun hb103 => ?_) (fun hb103 => ?_)
      · refine X_run 1 (i1 := 107) (L1 := [none, none, some (.inr (.inl v2)), none, some (.inl v4), some (.inr (.inl v5)), none, some (.inr (.inl v7)), none, some (.inl v9), none, none]) (st1 := [.inl (0 : Int32), .inl ((v4 / (2 : Int32)) - (30 : Int32)), .inr (.inl v7), .inl (0 : Int32)]) rfl ?_
        refine X_mask [true, true, false, true, false, false, true, false, true, false, true, true] ?_
        exact ct_M_root_107 (0 : Int32) ((v4 / (2 : Int32)) - (30 : Int32)) v7 (0 : Int32)
      · refine X_run 2 (i1 := 107) (L1 := [none, none, some (.inr (.inl v2)), none, some (.inl v4), some (.inr (.inl v5)), none, some (.inr (.inl v7)), none, some (.inl v9), none, none]) (st1 := [.inl (1 : Int32), .inl ((v4 / (2 : Int32)) - (30 : Int32)), .inr (.inl v7), .inl (0 : Int32)]) rfl ?_
        refine X_mask [true, true, false, true, false, false, true, false, true, false, true, true] ?_
        exact ct_M_root_107 (1 : Int32) ((v4 / (2 : Int32)) - (30 : Int32)) v7 (0 : Int32)
    · refine X_run 5 (i1 := cond (cn1 .ge v9) 60 58) (L1 := [none, none, some (.inr (.inl v2)), none, some (.inl v4), some (.inr (.inl v5)), none, some (.inr (.inl v7)), none, some (.inl v9), none, none]) (st1 := [.inr (.inl (v5 <<< (Int32.toInt64 (2 : Int32) &&& 63)))]) rfl ?_
      refine X_brq (fun hb57 => ?_) (fun hb57 => ?_)
      · refine X_run 23 (i1 := cond (cn1 .lt (lg_cmp ((v5 <<< (Int32.toInt64 (2 : Int32) &&& 63)) ||| (((Int64.toUInt64 v2 >>> (Int64.toUInt64 (Int32.toInt64 ((2 : Int32) * v9)) &&& Int64.toUInt64 63)).toInt64) &&& (3 : Int64))) ((v7 <<< (Int32.toInt64 (2 : Int32) &&& 63)) ||| (1 : Int64)))) 91 83) (L1 := [none, none, some (.inr (.inl v2)), none, some (.inl v4), some (.inr (.inl ((v5 <<< (Int32.toInt64 (2 : Int32) &&& 63)) ||| (((Int64.toUInt64 v2 >>> (Int64.toUInt64 (Int32.toInt64 ((2 : Int32) * v9)) &&& Int64.toUInt64 63)).toInt64) &&& (3 : Int64))))), none, some (.inr (.inl (v7 <<< (Int32.toInt64 (1 : Int32) &&& 63)))), none, some (.inl v9), some (.inr (.inl ((v7 <<< (Int32.toInt64 (2 : Int32) &&& 63)) ||| (1 : Int64)))), none]) (st1 := []) rfl ?_
        refine X_brq (fun hb82 => ?_) (fun hb82 => ?_)
        · refine X_run 2 (i1 := 50) (L1 := [none, none, some (.inr (.inl v2)), none, some (.inl v4), some (.inr (.inl ((v5 <<< (Int32.toInt64 (2 : Int32) &&& 63)) ||| (((Int64.toUInt64 v2 >>> (Int64.toUInt64 (Int32.toInt64 ((2 : Int32) * v9)) &&& Int64.toUInt64 63)).toInt64) &&& (3 : Int64))))), none, some (.inr (.inl (v7 <<< (Int32.toInt64 (1 : Int32) &&& 63)))), none, some (.inl (v9 + Int32.ofInt (-1))), some (.inr (.inl ((v7 <<< (Int32.toInt64 (2 : Int32) &&& 63)) ||| (1 : Int64)))), none]) (st1 := []) rfl ?_
          refine X_mask [true, true, true, true, true, true, true, true, true, true, false, true] ?_
          exact ih v2 v4 ((v5 <<< (Int32.toInt64 (2 : Int32) &&& 63)) ||| (((Int64.toUInt64 v2 >>> (Int64.toUInt64 (Int32.toInt64 ((2 : Int32) * v9)) &&& Int64.toUInt64 63)).toInt64) &&& (3 : Int64))) (v7 <<< (Int32.toInt64 (1 : Int32) &&& 63)) (v9 + Int32.ofInt (-1)) (by have h1 := i_lt_f hb52; have h2 : (-30 : Int32).toInt = -30 := (by decide); have h3 := i_add (x := v9) (-1) (by omega) (by omega) (by omega) (by omega); omega)
        · refine X_run 10 (i1 := 50) (L1 := [none, none, some (.inr (.inl v2)), none, some (.inl v4), some (.inr (.inl (((v5 <<< (Int32.toInt64 (2 : Int32) &&& 63)) ||| (((Int64.toUInt64 v2 >>> (Int64.toUInt64 (Int32.toInt64 ((2 : Int32) * v9)) &&& Int64.toUInt64 63)).toInt64) &&& (3 : Int64))) - ((v7 <<< (Int32.toInt64 (2 : Int32) &&& 63)) ||| (1 : Int64))))), none, some (.inr (.inl ((v7 <<< (Int32.toInt64 (1 : Int32) &&& 63)) + (1 : Int64)))), none, some (.inl (v9 + Int32.ofInt (-1))), some (.inr (.inl ((v7 <<< (Int32.toInt64 (2 : Int32) &&& 63)) ||| (1 : Int64)))), none]) (st1 := []) rfl ?_
          refine X_mask [true, true, true, true, true, true, true, true, true, true, false, true] ?_
          exact ih v2 v4 (((v5 <<< (Int32.toInt64 (2 : Int32) &&& 63)) ||| (((Int64.toUInt64 v2 >>> (Int64.toUInt64 (Int32.toInt64 ((2 : Int32) * v9)) &&& Int64.toUInt64 63)).toInt64) &&& (3 : Int64))) - ((v7 <<< (Int32.toInt64 (2 : Int32) &&& 63)) ||| (1 : Int64))) ((v7 <<< (Int32.toInt64 (1 : Int32) &&& 63)) + (1 : Int64)) (v9 + Int32.ofInt (-1)) (by have h1 := i_lt_f hb52; have h2 : (-30 : Int32).toInt = -30 := (by decide); have h3 := i_add (x := v9) (-1) (by omega) (by omega) (by omega) (by omega); omega)
      · refine X_run 18 (i1 := cond (cn1 .lt (lg_cmp ((v5 <<< (Int32.toInt64 (2 : Int32) &&& 63)) ||| (0 : Int64)) ((v7 <<< (Int32.toInt64 (2 : Int32) &&& 63)) ||| (1 : Int64)))) 91 83) (L1 := [none, none, some (.inr (.inl v2)), none, some (.inl v4), some (.inr (.inl ((v5 <<< (Int32.toInt64 (2 : Int32) &&& 63)) ||| (0 : Int64)))), none, some (.inr (.inl (v7 <<< (Int32.toInt64 (1 : Int32) &&& 63)))), none, some (.inl v9), some (.inr (.inl ((v7 <<< (Int32.toInt64 (2 : Int32) &&& 63)) ||| (1 : Int64)))), none]) (st1 := []) rfl ?_
        refine X_brq (fun hb82 => ?_) (fun hb82 => ?_)
        · refine X_run 2 (i1 := 50) (L1 := [none, none, some (.inr (.inl v2)), none, some (.inl v4), some (.inr (.inl ((v5 <<< (Int32.toInt64 (2 : Int32) &&& 63)) ||| (0 : Int64)))), none, some (.inr (.inl (v7 <<< (Int32.toInt64 (1 : Int32) &&& 63)))), none, some (.inl (v9 + Int32.ofInt (-1))), some (.inr (.inl ((v7 <<< (Int32.toInt64 (2 : Int32) &&& 63)) ||| (1 : Int64)))), none]) (st1 := []) rfl ?_
          refine X_mask [true, true, true, true, true, true, true, true, true, true, false, true] ?_
          exact ih v2 v4 ((v5 <<< (Int32.toInt64 (2 : Int32) &&& 63)) ||| (0 : Int64)) (v7 <<< (Int32.toInt64 (1 : Int32) &&& 63)) (v9 + Int32.ofInt (-1)) (by have h1 := i_lt_f hb52; have h2 : (-30 : Int32).toInt = -30 := (by decide); have h3 := i_add (x := v9) (-1) (by omega) (by omega) (by omega) (by omega); omega)
        · refine X_run 10 (i1 := 50) (L1 := [none, none, some (.inr (.inl v2)), none, some (.inl v4), some (.inr (.inl (((v5 <<< (Int32.toInt64 (2 : Int32) &&& 63)) ||| (0 : Int64)) - ((v7 <<< (Int32.toInt64 (2 : Int32) &&& 63)) ||| (1 : Int64))))), none, some (.inr (.inl ((v7 <<< (Int32.toInt64 (1 : Int32) &&& 63)) + (1 : Int64)))), none, some (.inl (v9 + Int32.ofInt (-1))), some (.inr (.inl ((v7 <<< (Int32.toInt64 (2 : Int32) &&& 63)) ||| (1 : Int64)))), none]) (st1 := []) rfl ?_
          refine X_mask [true, true, true, true, true, true, true, true, true, true, false, true] ?_
          exact ih v2 v4 (((v5 <<< (Int32.toInt64 (2 : Int32) &&& 63)) ||| (0 : Int64)) - ((v7 <<< (Int32.toInt64 (2 : Int32) &&& 63)) ||| (1 : Int64))) ((v7 <<< (Int32.toInt64 (1 : Int32) &&& 63)) + (1 : Int64)) (v9 + Int32.ofInt (-1)) (by have h1 := i_lt_f hb52; have h2 : (-30 : Int32).toInt = -30 := (by decide); have h3 := i_add (x := v9) (-1) (by omega) (by omega) (by omega) (by omega); omega)
def t_M_root_44 (v2 : Int64) (v4 : Int32) : Int64 := (t_M_root_50 58 v2 v4 (0 : Int64) (0 : Int64) (26 : Int32))
theorem ct_M_root_44 {d : Nat} {P : AP} (v2 : Int64) (v4 : Int32) : X m_M_root (d + 3) 44 [none, none, some (.inr (.inl v2)), none, some (.inl v4), none, none, none, none, none, none, none] [] P (qL P (t_M_root_44 v2 v4)) := by
  unfold t_M_root_44
  refine X_run 6 (i1 := 50) (L1 := [none, none, some (.inr (.inl v2)), none, some (.inl v4), some (.inr (.inl (0 : Int64))), none, some (.inr (.inl (0 : Int64))), none, some (.inl (26 : Int32)), none, none]) (st1 := []) rfl ?_
  exact ct_M_root_50 58 v2 v4 (0 : Int64) (0 : Int64) (26 : Int32) (by exact ⟨by decide, by decide, by decide⟩)
def t_M_root_25 : Nat → Int64 → Int32 → Int64
  | 0, _, _ => 0
  | n + 1, v2, v4 => (cond (cn1 .ge (lg_cmp v2 (4503599627370496 : Int64))) (cond (cn1 .eq (v4 &&& (1 : Int32))) (t_M_root_44 v2 v4) (t_M_root_44 (v2 <<< (Int32.toInt64 (1 : Int32) &&& 63)) (v4 + Int32.ofInt (-1)))) (t_M_root_25 n (v2 <<< (Int32.toInt64 (1 : Int32) &&& 63)) (v4 + Int32.ofInt (-1))))
theorem ct_M_root_25 {d : Nat} {P : AP} : ∀ (n : Nat) (v2 : Int64) (v4 : Int32), NZ n v2 → X m_M_root (d + 3) 25 [none, none, some (.inr (.inl v2)), none, some (.inl v4), none, none, none, none, none, none, none] [] P (qL P (t_M_root_25 n v2 v4))
  | 0, v2, v4, hI => by exact hI.no.elim
  | n + 1, v2, v4, hI => by
    have ih := @ct_M_root_25 d P n
    unfold t_M_root_25
    refine X_run 4 (i1 := cond (cn1 .ge (lg_cmp v2 (4503599627370496 : Int64))) 35 29) (L1 := [none, none, some (.inr (.inl v2)), none, some (.inl v4), none, none, none, none, none, none, none]) (st1 := []) rfl ?_
    refine X_brq (fun hb28 => ?_) (fun hb28 => ?_)
    · refine X_run 4 (i1 := cond (cn1 .eq (v4 &&& (1 : Int32))) 44 39) (L1 := [none, none, some (.inr (.inl v2)), none, some (.inl v4), none, none, none, none, none, none, none]) (st1 := []) rfl ?_
      refine X_brq (fun hb38 => ?_) (fun hb38 => ?_)
      · exact ct_M_root_44 v2 v4
      · refine X_run 5 (i1 := 44) (L1 := [none, none, some (.inr (.inl (v2 <<< (Int32.toInt64 (1 : Int32) &&& 63)))), none, some (.inl (v4 + Int32.ofInt (-1))), none, none, none, none, none, none, none]) (st1 := []) rfl ?_
        exact ct_M_root_44 (v2 <<< (Int32.toInt64 (1 : Int32) &&& 63)) (v4 + Int32.ofInt (-1))
    · refine X_run 6 (i1 := 25) (L1 := [none, none, some (.inr (.inl (v2 <<< (Int32.toInt64 (1 : Int32) &&& 63)))), none, some (.inl (v4 + Int32.ofInt (-1))), none, none, none, none, none, none, none]) (st1 := []) rfl ?_
      exact ih (v2 <<< (Int32.toInt64 (1 : Int32) &&& 63)) (v4 + Int32.ofInt (-1)) (by exact hI.up hb28)
def f_M_root (a0 : Int64) : Int64 := (cond (cn1 .ne (b2i (f_M_isNo a0))) a0 (cond (cn1 .eq (b2i (f_M_isZero a0))) (cond (cn1 .ge (lg_cmp a0 (0 : Int64))) (cond (cn1 .eq (b2i (f_M_isInfinite a0))) (t_M_root_25 53 (f_M_mantissa a0) (f_M_power a0)) a0) (9221120237041090560 : Int64)) a0))
theorem c_M_root {d : Nat} {P : AP} (a0 : Int64) : X m_M_root (d + 3) 0 (entL 12 [.inr (.inl a0)]) [] P (qL P (f_M_root a0)) := by
  unfold f_M_root
  refine X_run 1 (i1 := 1) (L1 := [some (.inr (.inl a0)), none, none, none, none, none, none, none, none, none, none, none]) (st1 := [.inr (.inl a0)]) rfl ?_
  refine X_calls m_M_isNo (As := [.inr (.inl a0)]) (st := []) ok_M_isNo rfl rfl rfl (Nat.le_of_ble_eq_true rfl) (Nat.le_of_ble_eq_true rfl) (c_M_isNo (d := d + 2) a0) ?_
  rintro _ _ ⟨rfl, rfl⟩
  show X _ _ 2 [some (.inr (.inl a0)), none, none, none, none, none, none, none, none, none, none, none] [.inl (b2i (f_M_isNo a0))] _ _
  refine X_run 1 (i1 := cond (cn1 .ne (b2i (f_M_isNo a0))) 6 3) (L1 := [some (.inr (.inl a0)), none, none, none, none, none, none, none, none, none, none, none]) (st1 := []) rfl ?_
  refine X_brq (fun hb2 => ?_) (fun hb2 => ?_)
  · refine X_run 1 (i1 := 7) (L1 := [some (.inr (.inl a0)), none, none, none, none, none, none, none, none, none, none, none]) (st1 := [.inr (.inl a0)]) rfl ?_
    exact X_lret rfl rfl ⟨rfl, rfl⟩
  · refine X_run 1 (i1 := 4) (L1 := [some (.inr (.inl a0)), none, none, none, none, none, none, none, none, none, none, none]) (st1 := [.inr (.inl a0)]) rfl ?_
    refine X_calls m_M_isZero (As := [.inr (.inl a0)]) (st := []) ok_M_isZero rfl rfl rfl (Nat.le_of_ble_eq_true rfl) (Nat.le_of_ble_eq_true rfl) (c_M_isZero (d := d + 2) a0) ?_
    rintro _ _ ⟨rfl, rfl⟩
    show X _ _ 5 [some (.inr (.inl a0)), none, none, none, none, none, none, none, none, none, none, none] [.inl (b2i (f_M_isZero a0))] _ _
    refine X_run 1 (i1 := cond (cn1 .eq (b2i (f_M_isZero a0))) 8 6) (L1 := [some (.inr (.inl a0)), none, none, none, none, none, none, none, none, none, none, none]) (st1 := []) rfl ?_
    refine X_brq (fun hb5 => ?_) (fun hb5 => ?_)
    · refine X_run 4 (i1 := cond (cn1 .ge (lg_cmp a0 (0 : Int64))) 14 12) (L1 := [some (.inr (.inl a0)), none, none, none, none, none, none, none, none, none, none, none]) (st1 := []) rfl ?_
      refine X_brq (fun hb11 => ?_) (fun hb11 => ?_)
      · refine X_run 1 (i1 := 15) (L1 := [some (.inr (.inl a0)), none, none, none, none, none, none, none, none, none, none, none]) (st1 := [.inr (.inl a0)]) rfl ?_
        refine X_calls m_M_isInfinite (As := [.inr (.inl a0)]) (st := []) ok_M_isInfinite rfl rfl rfl (Nat.le_of_ble_eq_true rfl) (Nat.le_of_ble_eq_true rfl) (c_M_isInfinite (d := d + 2) a0) ?_
        rintro _ _ ⟨rfl, rfl⟩
        show X _ _ 16 [some (.inr (.inl a0)), none, none, none, none, none, none, none, none, none, none, none] [.inl (b2i (f_M_isInfinite a0))] _ _
        refine X_run 1 (i1 := cond (cn1 .eq (b2i (f_M_isInfinite a0))) 19 17) (L1 := [some (.inr (.inl a0)), none, none, none, none, none, none, none, none, none, none, none]) (st1 := []) rfl ?_
        refine X_brq (fun hb16 => ?_) (fun hb16 => ?_)
        · refine X_run 1 (i1 := 20) (L1 := [some (.inr (.inl a0)), none, none, none, none, none, none, none, none, none, none, none]) (st1 := [.inr (.inl a0)]) rfl ?_
          refine X_calls m_M_mantissa (As := [.inr (.inl a0)]) (st := []) ok_M_mantissa rfl rfl rfl (Nat.le_of_ble_eq_true rfl) (Nat.le_of_ble_eq_true rfl) (c_M_mantissa (d := d + 2) a0) ?_
          rintro _ _ ⟨rfl, rfl⟩
          show X _ _ 21 [some (.inr (.inl a0)), none, none, none, none, none, none, none, none, none, none, none] [.inr (.inl (f_M_mantissa a0))] _ _
          refine X_run 2 (i1 := 23) (L1 := [some (.inr (.inl a0)), none, some (.inr (.inl (f_M_mantissa a0))), none, none, none, none, none, none, none, none, none]) (st1 := [.inr (.inl a0)]) rfl ?_
          refine X_calls m_M_power (As := [.inr (.inl a0)]) (st := []) ok_M_power rfl rfl rfl (Nat.le_of_ble_eq_true rfl) (Nat.le_of_ble_eq_true rfl) (c_M_power (d := d + 2) a0) ?_
          rintro _ _ ⟨rfl, rfl⟩
          show X _ _ 24 [some (.inr (.inl a0)), none, some (.inr (.inl (f_M_mantissa a0))), none, none, none, none, none, none, none, none, none] [.inl (f_M_power a0)] _ _
          refine X_run 1 (i1 := 25) (L1 := [some (.inr (.inl a0)), none, some (.inr (.inl (f_M_mantissa a0))), none, some (.inl (f_M_power a0)), none, none, none, none, none, none, none]) (st1 := []) rfl ?_
          refine X_mask [false, true, true, true, true, true, true, true, true, true, true, true] ?_
          exact ct_M_root_25 53 (f_M_mantissa a0) (f_M_power a0) (by exact nz_mant (zf_eq hb5))
        · refine X_run 1 (i1 := 18) (L1 := [some (.inr (.inl a0)), none, none, none, none, none, none, none, none, none, none, none]) (st1 := [.inr (.inl a0)]) rfl ?_
          exact X_lret rfl rfl ⟨rfl, rfl⟩
      · refine X_run 1 (i1 := 13) (L1 := [some (.inr (.inl a0)), none, none, none, none, none, none, none, none, none, none, none]) (st1 := [.inr (.inl (9221120237041090560 : Int64))]) rfl ?_
        exact X_lret rfl rfl ⟨rfl, rfl⟩
    · refine X_run 1 (i1 := 7) (L1 := [some (.inr (.inl a0)), none, none, none, none, none, none, none, none, none, none, none]) (st1 := [.inr (.inl a0)]) rfl ?_
      exact X_lret rfl rfl ⟨rfl, rfl⟩
def t_M_order_37 (v4 : Int64) (w0 : Int64) : Int32 := (cond (cn1 .ge (lg_cmp v4 w0)) (cond (cn1 .le (lg_cmp v4 w0)) (0 : Int32) (1 : Int32)) (-1 : Int32))
theorem ct_M_order_37 {d : Nat} {P : AP} (v4 : Int64) (w0 : Int64) : X m_M_order (d + 1) 37 [none, none, none, none, some (.inr (.inl v4)), none, none, none] [.inr (.inl w0)] P (qI P (t_M_order_37 v4 w0)) := by
  unfold t_M_order_37
  refine X_run 5 (i1 := cond (cn1 .ge (lg_cmp v4 w0)) 44 42) (L1 := [none, none, none, none, some (.inr (.inl v4)), none, some (.inr (.inl w0)), none]) (st1 := []) rfl ?_
  refine X_brq (fun hb41 => ?_) (fun hb41 => ?_)
  · refine X_run 4 (i1 := cond (cn1 .le (lg_cmp v4 w0)) 50 48) (L1 := [none, none, none, none, some (.inr (.inl v4)), none, some (.inr (.inl w0)), none]) (st1 := []) rfl ?_
    refine X_brq (fun hb47 => ?_) (fun hb47 => ?_)
    · refine X_run 1 (i1 := 51) (L1 := [none, none, none, none, some (.inr (.inl v4)), none, some (.inr (.inl w0)), none]) (st1 := [.inl (0 : Int32)]) rfl ?_
      exact X_iret rfl rfl ⟨rfl, rfl⟩
    · refine X_run 2 (i1 := 51) (L1 := [none, none, none, none, some (.inr (.inl v4)), none, some (.inr (.inl w0)), none]) (st1 := [.inl (1 : Int32)]) rfl ?_
      exact X_iret rfl rfl ⟨rfl, rfl⟩
  · refine X_run 2 (i1 := 51) (L1 := [none, none, none, none, some (.inr (.inl v4)), none, some (.inr (.inl w0)), none]) (st1 := [.inl (-1 : Int32)]) rfl ?_
    exact X_iret rfl rfl ⟨rfl, rfl⟩
def t_M_order_26 (v2 : Int64) (w0 : Int64) : Int32 := (cond (cn1 .ge (lg_cmp v2 (0 : Int64))) (t_M_order_37 w0 v2) (t_M_order_37 w0 (-(v2 &&& (9223372036854775807 : Int64)))))
theorem ct_M_order_26 {d : Nat} {P : AP} (v2 : Int64) (w0 : Int64) : X m_M_order (d + 1) 26 [none, none, some (.inr (.inl v2)), none, none, none, none, none] [.inr (.inl w0)] P (qI P (t_M_order_26 v2 w0)) := by
  unfold t_M_order_26
  refine X_run 5 (i1 := cond (cn1 .ge (lg_cmp v2 (0 : Int64))) 36 31) (L1 := [none, none, some (.inr (.inl v2)), none, some (.inr (.inl w0)), none, none, none]) (st1 := []) rfl ?_
  refine X_brq (fun hb30 => ?_) (fun hb30 => ?_)
  · refine X_run 1 (i1 := 37) (L1 := [none, none, some (.inr (.inl v2)), none, some (.inr (.inl w0)), none, none, none]) (st1 := [.inr (.inl v2)]) rfl ?_
    refine X_mask [true, true, false, true, true, true, true, true] ?_
    exact ct_M_order_37 w0 v2
  · refine X_run 5 (i1 := 37) (L1 := [none, none, some (.inr (.inl v2)), none, some (.inr (.inl w0)), none, none, none]) (st1 := [.inr (.inl (-(v2 &&& (9223372036854775807 : Int64))))]) rfl ?_
    refine X_mask [true, true, false, true, true, true, true, true] ?_
    exact ct_M_order_37 w0 (-(v2 &&& (9223372036854775807 : Int64)))
def t_M_order_16 (v0 : Int64) (v2 : Int64) : Int32 := (cond (cn1 .ge (lg_cmp v0 (0 : Int64))) (t_M_order_26 v2 v0) (t_M_order_26 v2 (-(v0 &&& (9223372036854775807 : Int64)))))
theorem ct_M_order_16 {d : Nat} {P : AP} (v0 : Int64) (v2 : Int64) : X m_M_order (d + 1) 16 [some (.inr (.inl v0)), none, some (.inr (.inl v2)), none, none, none, none, none] [] P (qI P (t_M_order_16 v0 v2)) := by
  unfold t_M_order_16
  refine X_run 4 (i1 := cond (cn1 .ge (lg_cmp v0 (0 : Int64))) 25 20) (L1 := [some (.inr (.inl v0)), none, some (.inr (.inl v2)), none, none, none, none, none]) (st1 := []) rfl ?_
  refine X_brq (fun hb19 => ?_) (fun hb19 => ?_)
  · refine X_run 1 (i1 := 26) (L1 := [some (.inr (.inl v0)), none, some (.inr (.inl v2)), none, none, none, none, none]) (st1 := [.inr (.inl v0)]) rfl ?_
    refine X_mask [false, true, true, true, true, true, true, true] ?_
    exact ct_M_order_26 v2 v0
  · refine X_run 5 (i1 := 26) (L1 := [some (.inr (.inl v0)), none, some (.inr (.inl v2)), none, none, none, none, none]) (st1 := [.inr (.inl (-(v0 &&& (9223372036854775807 : Int64))))]) rfl ?_
    refine X_mask [false, true, true, true, true, true, true, true] ?_
    exact ct_M_order_26 v2 (-(v0 &&& (9223372036854775807 : Int64)))
def f_M_order (a0 : Int64) (a1 : Int64) : Int32 := (cond (cn1 .ne (b2i (f_M_isNo a0))) (2 : Int32) (cond (cn1 .eq (b2i (f_M_isNo a1))) (cond (cn1 .eq (b2i (f_M_isZero a0))) (t_M_order_16 a0 a1) (cond (cn1 .eq (b2i (f_M_isZero a1))) (t_M_order_16 a0 a1) (0 : Int32))) (2 : Int32)))
theorem c_M_order {d : Nat} {P : AP} (a0 : Int64) (a1 : Int64) : X m_M_order (d + 1) 0 (entL 8 [.inr (.inl a0), .inr (.inl a1)]) [] P (qI P (f_M_order a0 a1)) := by
  unfold f_M_order
  refine X_run 1 (i1 := 1) (L1 := [some (.inr (.inl a0)), none, some (.inr (.inl a1)), none, none, none, none, none]) (st1 := [.inr (.inl a0)]) rfl ?_
  refine X_calls m_M_isNo (As := [.inr (.inl a0)]) (st := []) ok_M_isNo rfl rfl rfl (Nat.le_of_ble_eq_true rfl) (Nat.le_of_ble_eq_true rfl) (c_M_isNo (d := d) a0) ?_
  rintro _ _ ⟨rfl, rfl⟩
  show X _ _ 2 [some (.inr (.inl a0)), none, some (.inr (.inl a1)), none, none, none, none, none] [.inl (b2i (f_M_isNo a0))] _ _
  refine X_run 1 (i1 := cond (cn1 .ne (b2i (f_M_isNo a0))) 6 3) (L1 := [some (.inr (.inl a0)), none, some (.inr (.inl a1)), none, none, none, none, none]) (st1 := []) rfl ?_
  refine X_brq (fun hb2 => ?_) (fun hb2 => ?_)
  · refine X_run 1 (i1 := 7) (L1 := [some (.inr (.inl a0)), none, some (.inr (.inl a1)), none, none, none, none, none]) (st1 := [.inl (2 : Int32)]) rfl ?_
    exact X_iret rfl rfl ⟨rfl, rfl⟩
  · refine X_run 1 (i1 := 4) (L1 := [some (.inr (.inl a0)), none, some (.inr (.inl a1)), none, none, none, none, none]) (st1 := [.inr (.inl a1)]) rfl ?_
    refine X_calls m_M_isNo (As := [.inr (.inl a1)]) (st := []) ok_M_isNo rfl rfl rfl (Nat.le_of_ble_eq_true rfl) (Nat.le_of_ble_eq_true rfl) (c_M_isNo (d := d) a1) ?_
    rintro _ _ ⟨rfl, rfl⟩
    show X _ _ 5 [some (.inr (.inl a0)), none, some (.inr (.inl a1)), none, none, none, none, none] [.inl (b2i (f_M_isNo a1))] _ _
    refine X_run 1 (i1 := cond (cn1 .eq (b2i (f_M_isNo a1))) 8 6) (L1 := [some (.inr (.inl a0)), none, some (.inr (.inl a1)), none, none, none, none, none]) (st1 := []) rfl ?_
    refine X_brq (fun hb5 => ?_) (fun hb5 => ?_)
    · refine X_run 1 (i1 := 9) (L1 := [some (.inr (.inl a0)), none, some (.inr (.inl a1)), none, none, none, none, none]) (st1 := [.inr (.inl a0)]) rfl ?_
      refine X_calls m_M_isZero (As := [.inr (.inl a0)]) (st := []) ok_M_isZero rfl rfl rfl (Nat.le_of_ble_eq_true rfl) (Nat.le_of_ble_eq_true rfl) (c_M_isZero (d := d) a0) ?_
      rintro _ _ ⟨rfl, rfl⟩
      show X _ _ 10 [some (.inr (.inl a0)), none, some (.inr (.inl a1)), none, none, none, none, none] [.inl (b2i (f_M_isZero a0))] _ _
      refine X_run 1 (i1 := cond (cn1 .eq (b2i (f_M_isZero a0))) 16 11) (L1 := [some (.inr (.inl a0)), none, some (.inr (.inl a1)), none, none, none, none, none]) (st1 := []) rfl ?_
      refine X_brq (fun hb10 => ?_) (fun hb10 => ?_)
      · exact ct_M_order_16 a0 a1
      · refine X_run 1 (i1 := 12) (L1 := [some (.inr (.inl a0)), none, some (.inr (.inl a1)), none, none, none, none, none]) (st1 := [.inr (.inl a1)]) rfl ?_
        refine X_calls m_M_isZero (As := [.inr (.inl a1)]) (st := []) ok_M_isZero rfl rfl rfl (Nat.le_of_ble_eq_true rfl) (Nat.le_of_ble_eq_true rfl) (c_M_isZero (d := d) a1) ?_
        rintro _ _ ⟨rfl, rfl⟩
        show X _ _ 13 [some (.inr (.inl a0)), none, some (.inr (.inl a1)), none, none, none, none, none] [.inl (b2i (f_M_isZero a1))] _ _
        refine X_run 1 (i1 := cond (cn1 .eq (b2i (f_M_isZero a1))) 16 14) (L1 := [some (.inr (.inl a0)), none, some (.inr (.inl a1)), none, none, none, none, none]) (st1 := []) rfl ?_
        refine X_brq (fun hb13 => ?_) (fun hb13 => ?_)
        · exact ct_M_order_16 a0 a1
        · refine X_run 1 (i1 := 15) (L1 := [some (.inr (.inl a0)), none, some (.inr (.inl a1)), none, none, none, none, none]) (st1 := [.inl (0 : Int32)]) rfl ?_
          exact X_iret rfl rfl ⟨rfl, rfl⟩
    · refine X_run 1 (i1 := 7) (L1 := [some (.inr (.inl a0)), none, some (.inr (.inl a1)), none, none, none, none, none]) (st1 := [.inl (2 : Int32)]) rfl ?_
      exact X_iret rfl rfl ⟨rfl, rfl⟩
def t_M_realOf_22 (v2 : Int64) (w0 : Int32) : Int64 := (f_M_signed w0 v2 (0 : Int32) (0 : Int32))
theorem ct_M_realOf_22 {d : Nat} {P : AP} (v2 : Int64) (w0 : Int32) : X m_M_realOf (d + 3) 22 [none, none, some (.inr (.inl v2)), none] [.inl w0] P (qL P (t_M_realOf_22 v2 w0)) := by
  unfold t_M_realOf_22
  refine X_run 3 (i1 := 25) (L1 := [none, none, some (.inr (.inl v2)), none]) (st1 := [.inl (0 : Int32), .inl (0 : Int32), .inr (.inl v2), .inl w0]) rfl ?_
  refine X_calls m_M_signed (As := [.inl w0, .inr (.inl v2), .inl (0 : Int32), .inl (0 : Int32)]) (st := []) ok_M_signed rfl rfl rfl (Nat.le_of_ble_eq_true rfl) (Nat.le_of_ble_eq_true rfl) (c_M_signed (d := d) w0 v2 (0 : Int32) (0 : Int32)) ?_
  rintro _ _ ⟨rfl, rfl⟩
  show X _ _ 26 [none, none, some (.inr (.inl v2)), none] [.inr (.inl (f_M_signed w0 v2 (0 : Int32) (0 : Int32)))] _ _
  exact X_lret rfl rfl ⟨rfl, rfl⟩
def t_M_realOf_8 (v0 : Int64) (w0 : Int64) : Int64 := (cond (cn1 .ne (lg_cmp w0 (0 : Int64))) (cond (cn1 .ge (lg_cmp v0 (0 : Int64))) (t_M_realOf_22 w0 (0 : Int32)) (t_M_realOf_22 w0 (1 : Int32))) (0 : Int64))
theorem ct_M_realOf_8 {d : Nat} {P : AP} (v0 : Int64) (w0 : Int64) : X m_M_realOf (d + 3) 8 [some (.inr (.inl v0)), none, none, none] [.inr (.inl w0)] P (qL P (t_M_realOf_8 v0 w0)) := by
  unfold t_M_realOf_8
  refine X_run 5 (i1 := cond (cn1 .ne (lg_cmp w0 (0 : Int64))) 15 13) (L1 := [some (.inr (.inl v0)), none, some (.inr (.inl w0)), none]) (st1 := []) rfl ?_
  refine X_brq (fun hb12 => ?_) (fun hb12 => ?_)
  · refine X_run 4 (i1 := cond (cn1 .ge (lg_cmp v0 (0 : Int64))) 21 19) (L1 := [some (.inr (.inl v0)), none, some (.inr (.inl w0)), none]) (st1 := []) rfl ?_
    refine X_brq (fun hb18 => ?_) (fun hb18 => ?_)
    · refine X_run 1 (i1 := 22) (L1 := [some (.inr (.inl v0)), none, some (.inr (.inl w0)), none]) (st1 := [.inl (0 : Int32)]) rfl ?_
      refine X_mask [false, true, true, true] ?_
      exact ct_M_realOf_22 w0 (0 : Int32)
    · refine X_run 2 (i1 := 22) (L1 := [some (.inr (.inl v0)), none, some (.inr (.inl w0)), none]) (st1 := [.inl (1 : Int32)]) rfl ?_
      refine X_mask [false, true, true, true] ?_
      exact ct_M_realOf_22 w0 (1 : Int32)
  · refine X_run 2 (i1 := 26) (L1 := [some (.inr (.inl v0)), none, some (.inr (.inl w0)), none]) (st1 := [.inr (.inl (0 : Int64))]) rfl ?_
    exact X_lret rfl rfl ⟨rfl, rfl⟩
def f_M_realOf (a0 : Int64) : Int64 := (cond (cn1 .ge (lg_cmp a0 (0 : Int64))) (t_M_realOf_8 a0 a0) (t_M_realOf_8 a0 (-a0)))
theorem c_M_realOf {d : Nat} {P : AP} (a0 : Int64) : X m_M_realOf (d + 3) 0 (entL 4 [.inr (.inl a0)]) [] P (qL P (f_M_realOf a0)) := by
  unfold f_M_realOf
  refine X_run 4 (i1 := cond (cn1 .ge (lg_cmp a0 (0 : Int64))) 7 4) (L1 := [some (.inr (.inl a0)), none, none, none]) (st1 := []) rfl ?_
  refine X_brq (fun hb3 => ?_) (fun hb3 => ?_)
  · refine X_run 1 (i1 := 8) (L1 := [some (.inr (.inl a0)), none, none, none]) (st1 := [.inr (.inl a0)]) rfl ?_
    exact ct_M_realOf_8 a0 a0
  · refine X_run 3 (i1 := 8) (L1 := [some (.inr (.inl a0)), none, none, none]) (st1 := [.inr (.inl (-a0))]) rfl ?_
    exact ct_M_realOf_8 a0 (-a0)
def t_M_whole_31 (v0 : Int64) (w0 : Int64) : Int32 := (cond (cn1 .ge (lg_cmp v0 (0 : Int64))) (cond (cn1 .lt (lg_cmp w0 (2147483648 : Int64))) (Int64.toInt32 w0) (2147483647 : Int32)) (cond (cn1 .le (lg_cmp w0 (2147483648 : Int64))) (Int64.toInt32 (-w0)) (-2147483648 : Int32)))
theorem ct_M_whole_31 {d : Nat} {P : AP} (v0 : Int64) (w0 : Int64) : X m_M_whole (d + 1) 31 [some (.inr (.inl v0)), none, none, none, none, none, none] [.inr (.inl w0)] P (qI P (t_M_whole_31 v0 w0)) := by
  unfold t_M_whole_31
  refine X_run 5 (i1 := cond (cn1 .ge (lg_cmp v0 (0 : Int64))) 46 36) (L1 := [some (.inr (.inl v0)), none, none, none, none, some (.inr (.inl w0)), none]) (st1 := []) rfl ?_
  refine X_brq (fun hb35 => ?_) (fun hb35 => ?_)
  · refine X_run 4 (i1 := cond (cn1 .lt (lg_cmp w0 (2147483648 : Int64))) 52 50) (L1 := [some (.inr (.inl v0)), none, none, none, none, some (.inr (.inl w0)), none]) (st1 := []) rfl ?_
    refine X_brq (fun hb49 => ?_) (fun hb49 => ?_)
    · refine X_run 2 (i1 := 54) (L1 := [some (.inr (.inl v0)), none, none, none, none, some (.inr (.inl w0)), none]) (st1 := [.inl (Int64.toInt32 w0)]) rfl ?_
      exact X_iret rfl rfl ⟨rfl, rfl⟩
    · refine X_run 2 (i1 := 54) (L1 := [some (.inr (.inl v0)), none, none, none, none, some (.inr (.inl w0)), none]) (st1 := [.inl (2147483647 : Int32)]) rfl ?_
      exact X_iret rfl rfl ⟨rfl, rfl⟩
  · refine X_run 4 (i1 := cond (cn1 .le (lg_cmp w0 (2147483648 : Int64))) 42 40) (L1 := [some (.inr (.inl v0)), none, none, none, none, some (.inr (.inl w0)), none]) (st1 := []) rfl ?_
    refine X_brq (fun hb39 => ?_) (fun hb39 => ?_)
    · refine X_run 3 (i1 := 45) (L1 := [some (.inr (.inl v0)), none, none, none, none, some (.inr (.inl w0)), none]) (st1 := [.inl (Int64.toInt32 (-w0))]) rfl ?_
      exact X_iret rfl rfl ⟨rfl, rfl⟩
    · refine X_run 2 (i1 := 45) (L1 := [some (.inr (.inl v0)), none, none, none, none, some (.inr (.inl w0)), none]) (st1 := [.inl (-2147483648 : Int32)]) rfl ?_
      exact X_iret rfl rfl ⟨rfl, rfl⟩
def f_M_whole (a0 : Int64) : Int32 := (cond (cn1 .eq (b2i (f_M_isNo a0))) (cond (cn2 .lt (f_M_power a0) (-21 : Int32)) (cond (cn2 .ge (f_M_power a0) (-60 : Int32)) (t_M_whole_31 a0 ((Int64.toUInt64 (f_M_mantissa a0) >>> (Int64.toUInt64 (Int32.toInt64 (-(f_M_power a0))) &&& Int64.toUInt64 63)).toInt64)) (t_M_whole_31 a0 (0 : Int64))) (cond (cn1 .ne (lg_cmp (f_M_mantissa a0) (0 : Int64))) (t_M_whole_31 a0 (1099511627776 : Int64)) (t_M_whole_31 a0 (0 : Int64)))) (0 : Int32))
theorem c_M_whole {d : Nat} {P : AP} (a0 : Int64) : X m_M_whole (d + 1) 0 (entL 7 [.inr (.inl a0)]) [] P (qI P (f_M_whole a0)) := by
  unfold f_M_whole
  refine X_run 1 (i1 := 1) (L1 := [some (.inr (.inl a0)), none, none, none, none, none, none]) (st1 := [.inr (.inl a0)]) rfl ?_
  refine X_calls m_M_isNo (As := [.inr (.inl a0)]) (st := []) ok_M_isNo rfl rfl rfl (Nat.le_of_ble_eq_true rfl) (Nat.le_of_ble_eq_true rfl) (c_M_isNo (d := d) a0) ?_
  rintro _ _ ⟨rfl, rfl⟩
  show X _ _ 2 [some (.inr (.inl a0)), none, none, none, none, none, none] [.inl (b2i (f_M_isNo a0))] _ _
  refine X_run 1 (i1 := cond (cn1 .eq (b2i (f_M_isNo a0))) 5 3) (L1 := [some (.inr (.inl a0)), none, none, none, none, none, none]) (st1 := []) rfl ?_
  refine X_brq (fun hb2 => ?_) (fun hb2 => ?_)
  · refine X_run 1 (i1 := 6) (L1 := [some (.inr (.inl a0)), none, none, none, none, none, none]) (st1 := [.inr (.inl a0)]) rfl ?_
    refine X_calls m_M_power (As := [.inr (.inl a0)]) (st := []) ok_M_power rfl rfl rfl (Nat.le_of_ble_eq_true rfl) (Nat.le_of_ble_eq_true rfl) (c_M_power (d := d) a0) ?_
    rintro _ _ ⟨rfl, rfl⟩
    show X _ _ 7 [some (.inr (.inl a0)), none, none, none, none, none, none] [.inl (f_M_power a0)] _ _
    refine X_run 2 (i1 := 9) (L1 := [some (.inr (.inl a0)), none, some (.inl (f_M_power a0)), none, none, none, none]) (st1 := [.inr (.inl a0)]) rfl ?_
    refine X_calls m_M_mantissa (As := [.inr (.inl a0)]) (st := []) ok_M_mantissa rfl rfl rfl (Nat.le_of_ble_eq_true rfl) (Nat.le_of_ble_eq_true rfl) (c_M_mantissa (d := d) a0) ?_
    rintro _ _ ⟨rfl, rfl⟩
    show X _ _ 10 [some (.inr (.inl a0)), none, some (.inl (f_M_power a0)), none, none, none, none] [.inr (.inl (f_M_mantissa a0))] _ _
    refine X_run 4 (i1 := cond (cn2 .lt (f_M_power a0) (-21 : Int32)) 22 14) (L1 := [some (.inr (.inl a0)), none, some (.inl (f_M_power a0)), some (.inr (.inl (f_M_mantissa a0))), none, none, none]) (st1 := []) rfl ?_
    refine X_brq (fun hb13 => ?_) (fun hb13 => ?_)
    · refine X_run 3 (i1 := cond (cn2 .ge (f_M_power a0) (-60 : Int32)) 27 25) (L1 := [some (.inr (.inl a0)), none, some (.inl (f_M_power a0)), some (.inr (.inl (f_M_mantissa a0))), none, none, none]) (st1 := []) rfl ?_
      refine X_brq (fun hb24 => ?_) (fun hb24 => ?_)
      · refine X_run 4 (i1 := 31) (L1 := [some (.inr (.inl a0)), none, some (.inl (f_M_power a0)), some (.inr (.inl (f_M_mantissa a0))), none, none, none]) (st1 := [.inr (.inl ((Int64.toUInt64 (f_M_mantissa a0) >>> (Int64.toUInt64 (Int32.toInt64 (-(f_M_power a0))) &&& Int64.toUInt64 63)).toInt64))]) rfl ?_
        refine X_mask [true, true, false, false, true, true, true] ?_
        exact ct_M_whole_31 a0 ((Int64.toUInt64 (f_M_mantissa a0) >>> (Int64.toUInt64 (Int32.toInt64 (-(f_M_power a0))) &&& Int64.toUInt64 63)).toInt64)
      · refine X_run 2 (i1 := 31) (L1 := [some (.inr (.inl a0)), none, some (.inl (f_M_power a0)), some (.inr (.inl (f_M_mantissa a0))), none, none, none]) (st1 := [.inr (.inl (0 : Int64))]) rfl ?_
        refine X_mask [true, true, false, false, true, true, true] ?_
        exact ct_M_whole_31 a0 (0 : Int64)
    · refine X_run 4 (i1 := cond (cn1 .ne (lg_cmp (f_M_mantissa a0) (0 : Int64))) 20 18) (L1 := [some (.inr (.inl a0)), none, some (.inl (f_M_power a0)), some (.inr (.inl (f_M_mantissa a0))), none, none, none]) (st1 := []) rfl ?_
      refine X_brq (fun hb17 => ?_) (fun hb17 => ?_)
      · refine X_run 2 (i1 := 31) (L1 := [some (.inr (.inl a0)), none, some (.inl (f_M_power a0)), some (.inr (.inl (f_M_mantissa a0))), none, none, none]) (st1 := [.inr (.inl (1099511627776 : Int64))]) rfl ?_
        refine X_mask [true, true, false, false, true, true, true] ?_
        exact ct_M_whole_31 a0 (1099511627776 : Int64)
      · refine X_run 2 (i1 := 31) (L1 := [some (.inr (.inl a0)), none, some (.inl (f_M_power a0)), some (.inr (.inl (f_M_mantissa a0))), none, none, none]) (st1 := [.inr (.inl (0 : Int64))]) rfl ?_
        refine X_mask [true, true, false, false, true, true, true] ?_
        exact ct_M_whole_31 a0 (0 : Int64)
  · refine X_run 1 (i1 := 4) (L1 := [some (.inr (.inl a0)), none, none, none, none, none, none]) (st1 := [.inl (0 : Int32)]) rfl ?_
    exact X_iret rfl rfl ⟨rfl, rfl⟩
def t_M_even_118 (v0 : Int64) (w0 : Int64) : Int64 := (w0 ||| (v0 &&& (-9223372036854775808 : Int64)))
theorem ct_M_even_118 {d : Nat} {P : AP} (v0 : Int64) (w0 : Int64) : X m_M_even (d + 2) 118 [some (.inr (.inl v0)), none, none, none, none, none, none, none, none, none, none, none, none, none] [.inr (.inl w0)] P (qL P (t_M_even_118 v0 w0)) := by
  unfold t_M_even_118
  refine X_run 4 (i1 := 122) (L1 := [some (.inr (.inl v0)), none, none, none, none, none, none, none, none, none, none, none, none, none]) (st1 := [.inr (.inl (w0 ||| (v0 &&& (-9223372036854775808 : Int64))))]) rfl ?_
  exact X_lret rfl rfl ⟨rfl, rfl⟩
def t_M_even_106 (v0 : Int64) (v7 : Int64) : Int64 := (cond (cn1 .ne (lg_cmp v7 (0 : Int64))) (t_M_even_118 v0 (f_M_packed v7 (0 : Int32) (0 : Int32) (53 : Int32) (-1074 : Int32))) (t_M_even_118 v0 (0 : Int64)))
theorem ct_M_even_106 {d : Nat} {P : AP} (v0 : Int64) (v7 : Int64) : X m_M_even (d + 2) 106 [some (.inr (.inl v0)), none, none, none, none, none, none, some (.inr (.inl v7)), none, none, none, none, none, none] [] P (qL P (t_M_even_106 v0 v7)) := by
  unfold t_M_even_106
  refine X_run 4 (i1 := cond (cn1 .ne (lg_cmp v7 (0 : Int64))) 112 110) (L1 := [some (.inr (.inl v0)), none, none, none, none, none, none, some (.inr (.inl v7)), none, none, none, none, none, none]) (st1 := []) rfl ?_
  refine X_brq (fun hb109 => ?_) (fun hb109 => ?_)
  · refine X_run 5 (i1 := 117) (L1 := [some (.inr (.inl v0)), none, none, none, none, none, none, some (.inr (.inl v7)), none, none, none, none, none, none]) (st1 := [.inl (-1074 : Int32), .inl (53 : Int32), .inl (0 : Int32), .inl (0 : Int32), .inr (.inl v7)]) rfl ?_
    refine X_calls m_M_packed (As := [.inr (.inl v7), .inl (0 : Int32), .inl (0 : Int32), .inl (53 : Int32), .inl (-1074 : Int32)]) (st := []) ok_M_packed rfl rfl rfl (Nat.le_of_ble_eq_true rfl) (Nat.le_of_ble_eq_true rfl) (c_M_packed (d := d) v7 (0 : Int32) (0 : Int32) (53 : Int32) (-1074 : Int32)) ?_
    rintro _ _ ⟨rfl, rfl⟩
    show X _ _ 118 [some (.inr (.inl v0)), none, none, none, none, none, none, some (.inr (.inl v7)), none, none, none, none, none, none] [.inr (.inl (f_M_packed v7 (0 : Int32) (0 : Int32) (53 : Int32) (-1074 : Int32)))] _ _
    show X _ _ 118 [some (.inr (.inl v0)), none, none, none, none, none, none, some (.inr (.inl v7)), none, none, none, none, none, none] [.inr (.inl (f_M_packed v7 (0 : Int32) (0 : Int32) (53 : Int32) (-1074 : Int32)))] _ _
    refine X_mask [true, true, true, true, true, true, true, false, true, true, true, true, true, true] ?_
    exact ct_M_even_118 v0 (f_M_packed v7 (0 : Int32) (0 : Int32) (53 : Int32) (-1074 : Int32))
  · refine X_run 2 (i1 := 118) (L1 := [some (.inr (.inl v0)), none, none, none, none, none, none, some (.inr (.inl v7)), none, none, none, none, none, none]) (st1 := [.inr (.inl (0 : Int64))]) rfl ?_
    refine X_mask [true, true, true, true, true, true, true, false, true, true, true, true, true, true] ?_
    exact ct_M_even_118 v0 (0 : Int64)
def t_M_even_100 (v0 : Int64) (v7 : Int64) (v11 : Int32) : Int64 := (cond (cn1 .eq v11) (t_M_even_106 v0 v7) (t_M_even_106 v0 (v7 + (1 : Int64))))
theorem ct_M_even_100 {d : Nat} {P : AP} (v0 : Int64) (v7 : Int64) (v11 : Int32) : X m_M_even (d + 2) 100 [some (.inr (.inl v0)), none, none, none, none, none, none, some (.inr (.inl v7)), none, none, none, some (.inl v11), none, none] [] P (qL P (t_M_even_100 v0 v7 v11)) := by
  unfold t_M_even_100
  refine X_run 2 (i1 := cond (cn1 .eq v11) 106 102) (L1 := [some (.inr (.inl v0)), none, none, none, none, none, none, some (.inr (.inl v7)), none, none, none, some (.inl v11), none, none]) (st1 := []) rfl ?_
  refine X_brq (fun hb101 => ?_) (fun hb101 => ?_)
  · refine X_mask [true, true, true, true, true, true, true, true, true, true, true, false, true, true] ?_
    exact ct_M_even_106 v0 v7
  · refine X_run 4 (i1 := 106) (L1 := [some (.inr (.inl v0)), none, none, none, none, none, none, some (.inr (.inl (v7 + (1 : Int64)))), none, none, none, some (.inl v11), none, none]) (st1 := []) rfl ?_
    refine X_mask [true, true, true, true, true, true, true, true, true, true, true, false, true, true] ?_
    exact ct_M_even_106 v0 (v7 + (1 : Int64))
def t_M_even_99 (v0 : Int64) (v7 : Int64) (w0 : Int32) : Int64 := (t_M_even_100 v0 v7 w0)
theorem ct_M_even_99 {d : Nat} {P : AP} (v0 : Int64) (v7 : Int64) (w0 : Int32) : X m_M_even (d + 2) 99 [some (.inr (.inl v0)), none, none, none, none, none, none, some (.inr (.inl v7)), none, none, none, none, none, none] [.inl w0] P (qL P (t_M_even_99 v0 v7 w0)) := by
  unfold t_M_even_99
  refine X_run 1 (i1 := 100) (L1 := [some (.inr (.inl v0)), none, none, none, none, none, none, some (.inr (.inl v7)), none, none, none, some (.inl w0), none, none]) (st1 := []) rfl ?_
  exact ct_M_even_100 v0 v7 w0
def t_M_even_79 (v0 : Int64) (v7 : Int64) (w0 : Int32) : Int64 := (t_M_even_100 v0 v7 w0)
theorem ct_M_even_79 {d : Nat} {P : AP} (v0 : Int64) (v7 : Int64) (w0 : Int32) : X m_M_even (d + 2) 79 [some (.inr (.inl v0)), none, none, none, none, none, none, some (.inr (.inl v7)), none, none, none, none, none, none] [.inl w0] P (qL P (t_M_even_79 v0 v7 w0)) := by
  unfold t_M_even_79
  refine X_run 2 (i1 := 100) (L1 := [some (.inr (.inl v0)), none, none, none, none, none, none, some (.inr (.inl v7)), none, none, none, some (.inl w0), none, none]) (st1 := []) rfl ?_
  exact ct_M_even_100 v0 v7 w0
def t_M_even_78 (v0 : Int64) (v7 : Int64) : Int64 := (t_M_even_79 v0 v7 (0 : Int32))
theorem ct_M_even_78 {d : Nat} {P : AP} (v0 : Int64) (v7 : Int64) : X m_M_even (d + 2) 78 [some (.inr (.inl v0)), none, none, none, none, none, none, some (.inr (.inl v7)), none, none, none, none, none, none] [] P (qL P (t_M_even_78 v0 v7)) := by
  unfold t_M_even_78
  refine X_run 1 (i1 := 79) (L1 := [some (.inr (.inl v0)), none, none, none, none, none, none, some (.inr (.inl v7)), none, none, none, none, none, none]) (st1 := [.inl (0 : Int32)]) rfl ?_
  exact ct_M_even_79 v0 v7 (0 : Int32)
def t_M_even_76 (v0 : Int64) (v7 : Int64) : Int64 := (t_M_even_79 v0 v7 (1 : Int32))
theorem ct_M_even_76 {d : Nat} {P : AP} (v0 : Int64) (v7 : Int64) : X m_M_even (d + 2) 76 [some (.inr (.inl v0)), none, none, none, none, none, none, some (.inr (.inl v7)), none, none, none, none, none, none] [] P (qL P (t_M_even_76 v0 v7)) := by
  unfold t_M_even_76
  refine X_run 2 (i1 := 79) (L1 := [some (.inr (.inl v0)), none, none, none, none, none, none, some (.inr (.inl v7)), none, none, none, none, none, none]) (st1 := [.inl (1 : Int32)]) rfl ?_
  exact ct_M_even_79 v0 v7 (1 : Int32)
def t_M_even_61 (v0 : Int64) (v7 : Int64) (v9 : Int64) (w0 : Int64) : Int64 := (cond (cn1 .gt (lg_cmp v9 w0)) (t_M_even_76 v0 v7) (cond (cn1 .ne (lg_cmp v9 w0)) (t_M_even_78 v0 v7) (cond (cn1 .ne (lg_cmp (v7 &&& (1 : Int64)) (1 : Int64))) (t_M_even_78 v0 v7) (t_M_even_76 v0 v7))))
theorem ct_M_even_61 {d : Nat} {P : AP} (v0 : Int64) (v7 : Int64) (v9 : Int64) (w0 : Int64) : X m_M_even (d + 2) 61 [some (.inr (.inl v0)), none, none, none, none, none, none, some (.inr (.inl v7)), none, some (.inr (.inl v9)), none, none, none, none] [.inr (.inl w0)] P (qL P (t_M_even_61 v0 v7 v9 w0)) := by
  unfold t_M_even_61
  refine X_run 5 (i1 := cond (cn1 .gt (lg_cmp v9 w0)) 76 66) (L1 := [some (.inr (.inl v0)), none, none, none, none, none, none, some (.inr (.inl v7)), none, some (.inr (.inl v9)), none, none, some (.inr (.inl w0)), none]) (st1 := []) rfl ?_
  refine X_brq (fun hb65 => ?_) (fun hb65 => ?_)
  · refine X_mask [true, true, true, true, true, true, true, true, true, false, true, true, false, true] ?_
    exact ct_M_even_76 v0 v7
  · refine X_run 4 (i1 := cond (cn1 .ne (lg_cmp v9 w0)) 78 70) (L1 := [some (.inr (.inl v0)), none, none, none, none, none, none, some (.inr (.inl v7)), none, some (.inr (.inl v9)), none, none, some (.inr (.inl w0)), none]) (st1 := []) rfl ?_
    refine X_brq (fun hb69 => ?_) (fun hb69 => ?_)
    · refine X_mask [true, true, true, true, true, true, true, true, true, false, true, true, false, true] ?_
      exact ct_M_even_78 v0 v7
    · refine X_run 6 (i1 := cond (cn1 .ne (lg_cmp (v7 &&& (1 : Int64)) (1 : Int64))) 78 76) (L1 := [some (.inr (.inl v0)), none, none, none, none, none, none, some (.inr (.inl v7)), none, some (.inr (.inl v9)), none, none, some (.inr (.inl w0)), none]) (st1 := []) rfl ?_
      refine X_brq (fun hb75 => ?_) (fun hb75 => ?_)
      · refine X_mask [true, true, true, true, true, true, true, true, true, false, true, true, false, true] ?_
        exact ct_M_even_78 v0 v7
      · refine X_mask [true, true, true, true, true, true, true, true, true, false, true, true, false, true] ?_
        exact ct_M_even_76 v0 v7
def t_M_even_41 (v0 : Int64) (v2 : Int32) (v6 : Int32) (v7 : Int64) (w0 : Int64) : Int64 := (cond (cn1 .ne (lg_cmp w0 (0 : Int64))) (cond (cn2 .ne v2 (3 : Int32)) (cond (cn2 .ne v2 (1 : Int32)) (cond (cn1 .lt (lg_cmp v0 (0 : Int64))) (t_M_even_99 v0 v7 (0 : Int32)) (t_M_even_99 v0 v7 (1 : Int32))) (cond (cn1 .ge (lg_cmp v0 (0 : Int64))) (t_M_even_99 v0 v7 (0 : Int32)) (t_M_even_99 v0 v7 (1 : Int32)))) (cond (cn2 .le v6 (53 : Int32)) (t_M_even_61 v0 v7 w0 ((1 : Int64) <<< (Int32.toInt64 (v6 - (1 : Int32)) &&& 63))) (t_M_even_61 v0 v7 w0 (2 : Int64)))) v0)
theorem ct_M_even_41 {d : Nat} {P : AP} (v0 : Int64) (v2 : Int32) (v6 : Int32) (v7 : Int64) (w0 : Int64) : X m_M_even (d + 2) 41 [some (.inr (.inl v0)), none, some (.inl v2), none, none, none, some (.inl v6), some (.inr (.inl v7)), none, none, none, none, none, none] [.inr (.inl w0)] P (qL P (t_M_even_41 v0 v2 v6 v7 w0)) := by
  unfold t_M_even_41
  refine X_run 5 (i1 := cond (cn1 .ne (lg_cmp w0 (0 : Int64))) 48 46) (L1 := [some (.inr (.inl v0)), none, some (.inl v2), none, none, none, some (.inl v6), some (.inr (.inl v7)), none, some (.inr (.inl w0)), none, none, none, none]) (st1 := []) rfl ?_
  refine X_brq (fun hb45 => ?_) (fun hb45 => ?_)
  · refine X_run 3 (i1 := cond (cn2 .ne v2 (3 : Int32)) 81 51) (L1 := [some (.inr (.inl v0)), none, some (.inl v2), none, none, none, some (.inl v6), some (.inr (.inl v7)), none, some (.inr (.inl w0)), none, none, none, none]) (st1 := []) rfl ?_
    refine X_brq (fun hb50 => ?_) (fun hb50 => ?_)
    · refine X_run 3 (i1 := cond (cn2 .ne v2 (1 : Int32)) 92 84) (L1 := [some (.inr (.inl v0)), none, some (.inl v2), none, none, none, some (.inl v6), some (.inr (.inl v7)), none, some (.inr (.inl w0)), none, none, none, none]) (st1 := []) rfl ?_
      refine X_brq (fun hb83 => ?_) (fun hb83 => ?_)
      · refine X_run 4 (i1 := cond (cn1 .lt (lg_cmp v0 (0 : Int64))) 98 96) (L1 := [some (.inr (.inl v0)), none, some (.inl v2), none, none, none, some (.inl v6), some (.inr (.inl v7)), none, some (.inr (.inl w0)), none, none, none, none]) (st1 := []) rfl ?_
        refine X_brq (fun hb95 => ?_) (fun hb95 => ?_)
        · refine X_run 1 (i1 := 99) (L1 := [some (.inr (.inl v0)), none, some (.inl v2), none, none, none, some (.inl v6), some (.inr (.inl v7)), none, some (.inr (.inl w0)), none, none, none, none]) (st1 := [.inl (0 : Int32)]) rfl ?_
          refine X_mask [true, true, false, true, true, true, false, true, true, false, true, true, true, true] ?_
          exact ct_M_even_99 v0 v7 (0 : Int32)
        · refine X_run 2 (i1 := 99) (L1 := [some (.inr (.inl v0)), none, some (.inl v2), none, none, none, some (.inl v6), some (.inr (.inl v7)), none, some (.inr (.inl w0)), none, none, none, none]) (st1 := [.inl (1 : Int32)]) rfl ?_
          refine X_mask [true, true, false, true, true, true, false, true, true, false, true, true, true, true] ?_
          exact ct_M_even_99 v0 v7 (1 : Int32)
      · refine X_run 4 (i1 := cond (cn1 .ge (lg_cmp v0 (0 : Int64))) 90 88) (L1 := [some (.inr (.inl v0)), none, some (.inl v2), none, none, none, some (.inl v6), some (.inr (.inl v7)), none, some (.inr (.inl w0)), none, none, none, none]) (st1 := []) rfl ?_
        refine X_brq (fun hb87 => ?_) (fun hb87 => ?_)
        · refine X_run 2 (i1 := 99) (L1 := [some (.inr (.inl v0)), none, some (.inl v2), none, none, none, some (.inl v6), some (.inr (.inl v7)), none, some (.inr (.inl w0)), none, none, none, none]) (st1 := [.inl (0 : Int32)]) rfl ?_
          refine X_mask [true, true, false, true, true, true, false, true, true, false, true, true, true, true] ?_
          exact ct_M_even_99 v0 v7 (0 : Int32)
        · refine X_run 2 (i1 := 99) (L1 := [some (.inr (.inl v0)), none, some (.inl v2), none, none, none, some (.inl v6), some (.inr (.inl v7)), none, some (.inr (.inl w0)), none, none, none, none]) (st1 := [.inl (1 : Int32)]) rfl ?_
          refine X_mask [true, true, false, true, true, true, false, true, true, false, true, true, true, true] ?_
          exact ct_M_even_99 v0 v7 (1 : Int32)
    · refine X_run 3 (i1 := cond (cn2 .le v6 (53 : Int32)) 56 54) (L1 := [some (.inr (.inl v0)), none, some (.inl v2), none, none, none, some (.inl v6), some (.inr (.inl v7)), none, some (.inr (.inl w0)), none, none, none, none]) (st1 := []) rfl ?_
      refine X_brq (fun hb53 => ?_) (fun hb53 => ?_)
      · refine X_run 5 (i1 := 61) (L1 := [some (.inr (.inl v0)), none, some (.inl v2), none, none, none, some (.inl v6), some (.inr (.inl v7)), none, some (.inr (.inl w0)), none, none, none, none]) (st1 := [.inr (.inl ((1 : Int64) <<< (Int32.toInt64 (v6 - (1 : Int32)) &&& 63)))]) rfl ?_
        refine X_mask [true, true, false, true, true, true, false, true, true, true, true, true, true, true] ?_
        exact ct_M_even_61 v0 v7 w0 ((1 : Int64) <<< (Int32.toInt64 (v6 - (1 : Int32)) &&& 63))
      · refine X_run 2 (i1 := 61) (L1 := [some (.inr (.inl v0)), none, some (.inl v2), none, none, none, some (.inl v6), some (.inr (.inl v7)), none, some (.inr (.inl w0)), none, none, none, none]) (st1 := [.inr (.inl (2 : Int64))]) rfl ?_
        refine X_mask [true, true, false, true, true, true, false, true, true, true, true, true, true, true] ?_
        exact ct_M_even_61 v0 v7 w0 (2 : Int64)
  · refine X_run 1 (i1 := 47) (L1 := [some (.inr (.inl v0)), none, some (.inl v2), none, none, none, some (.inl v6), some (.inr (.inl v7)), none, some (.inr (.inl w0)), none, none, none, none]) (st1 := [.inr (.inl v0)]) rfl ?_
    exact X_lret rfl rfl ⟨rfl, rfl⟩
def t_M_even_30 (v0 : Int64) (v2 : Int32) (v4 : Int64) (v6 : Int32) (w0 : Int64) : Int64 := (cond (cn2 .le v6 (53 : Int32)) (t_M_even_41 v0 v2 v6 w0 (v4 - (w0 <<< (Int32.toInt64 v6 &&& 63)))) (t_M_even_41 v0 v2 v6 w0 (1 : Int64)))
theorem ct_M_even_30 {d : Nat} {P : AP} (v0 : Int64) (v2 : Int32) (v4 : Int64) (v6 : Int32) (w0 : Int64) : X m_M_even (d + 2) 30 [some (.inr (.inl v0)), none, some (.inl v2), none, some (.inr (.inl v4)), none, some (.inl v6), none, none, none, none, none, none, none] [.inr (.inl w0)] P (qL P (t_M_even_30 v0 v2 v4 v6 w0)) := by
  unfold t_M_even_30
  refine X_run 4 (i1 := cond (cn2 .le v6 (53 : Int32)) 36 34) (L1 := [some (.inr (.inl v0)), none, some (.inl v2), none, some (.inr (.inl v4)), none, some (.inl v6), some (.inr (.inl w0)), none, none, none, none, none, none]) (st1 := []) rfl ?_
  refine X_brq (fun hb33 => ?_) (fun hb33 => ?_)
  · refine X_run 5 (i1 := 41) (L1 := [some (.inr (.inl v0)), none, some (.inl v2), none, some (.inr (.inl v4)), none, some (.inl v6), some (.inr (.inl w0)), none, none, none, none, none, none]) (st1 := [.inr (.inl (v4 - (w0 <<< (Int32.toInt64 v6 &&& 63))))]) rfl ?_
    refine X_mask [true, true, true, true, false, true, true, true, true, true, true, true, true, true] ?_
    exact ct_M_even_41 v0 v2 v6 w0 (v4 - (w0 <<< (Int32.toInt64 v6 &&& 63)))
  · refine X_run 2 (i1 := 41) (L1 := [some (.inr (.inl v0)), none, some (.inl v2), none, some (.inr (.inl v4)), none, some (.inl v6), some (.inr (.inl w0)), none, none, none, none, none, none]) (st1 := [.inr (.inl (1 : Int64))]) rfl ?_
    refine X_mask [true, true, true, true, false, true, true, true, true, true, true, true, true, true] ?_
    exact ct_M_even_41 v0 v2 v6 w0 (1 : Int64)
def f_M_even (a0 : Int64) (a1 : Int32) : Int64 := (cond (cn1 .ne (b2i (f_M_isNo a0))) a0 (cond (cn1 .ne (b2i (f_M_isInfinite a0))) a0 (cond (cn1 .ne (b2i (f_M_isZero a0))) a0 (cond (cn1 .lt (f_M_power a0)) (cond (cn2 .le (-(f_M_power a0)) (53 : Int32)) (t_M_even_30 a0 a1 (f_M_mantissa a0) (-(f_M_power a0)) ((Int64.toUInt64 (f_M_mantissa a0) >>> (Int64.toUInt64 (Int32.toInt64 (-(f_M_power a0))) &&& Int64.toUInt64 63)).toInt64)) (t_M_even_30 a0 a1 (f_M_mantissa a0) (-(f_M_power a0)) (0 : Int64))) a0))))
theorem c_M_even {d : Nat} {P : AP} (a0 : Int64) (a1 : Int32) : X m_M_even (d + 2) 0 (entL 14 [.inr (.inl a0), .inl a1]) [] P (qL P (f_M_even a0 a1)) := by
  unfold f_M_even
  refine X_run 1 (i1 := 1) (L1 := [some (.inr (.inl a0)), none, some (.inl a1), none, none, none, none, none, none, none, none, none, none, none]) (st1 := [.inr (.inl a0)]) rfl ?_
  refine X_calls m_M_power (As := [.inr (.inl a0)]) (st := []) ok_M_power rfl rfl rfl (Nat.le_of_ble_eq_true rfl) (Nat.le_of_ble_eq_true rfl) (c_M_power (d := d + 1) a0) ?_
  rintro _ _ ⟨rfl, rfl⟩
  show X _ _ 2 [some (.inr (.inl a0)), none, some (.inl a1), none, none, none, none, none, none, none, none, none, none, none] [.inl (f_M_power a0)] _ _
  refine X_run 2 (i1 := 4) (L1 := [some (.inr (.inl a0)), none, some (.inl a1), some (.inl (f_M_power a0)), none, none, none, none, none, none, none, none, none, none]) (st1 := [.inr (.inl a0)]) rfl ?_
  refine X_calls m_M_isNo (As := [.inr (.inl a0)]) (st := []) ok_M_isNo rfl rfl rfl (Nat.le_of_ble_eq_true rfl) (Nat.le_of_ble_eq_true rfl) (c_M_isNo (d := d + 1) a0) ?_
  rintro _ _ ⟨rfl, rfl⟩
  show X _ _ 5 [some (.inr (.inl a0)), none, some (.inl a1), some (.inl (f_M_power a0)), none, none, none, none, none, none, none, none, none, none] [.inl (b2i (f_M_isNo a0))] _ _
  refine X_run 1 (i1 := cond (cn1 .ne (b2i (f_M_isNo a0))) 14 6) (L1 := [some (.inr (.inl a0)), none, some (.inl a1), some (.inl (f_M_power a0)), none, none, none, none, none, none, none, none, none, none]) (st1 := []) rfl ?_
  refine X_brq (fun hb5 => ?_) (fun hb5 => ?_)
  · refine X_run 1 (i1 := 15) (L1 := [some (.inr (.inl a0)), none, some (.inl a1), some (.inl (f_M_power a0)), none, none, none, none, none, none, none, none, none, none]) (st1 := [.inr (.inl a0)]) rfl ?_
    exact X_lret rfl rfl ⟨rfl, rfl⟩
  · refine X_run 1 (i1 := 7) (L1 := [some (.inr (.inl a0)), none, some (.inl a1), some (.inl (f_M_power a0)), none, none, none, none, none, none, none, none, none, none]) (st1 := [.inr (.inl a0)]) rfl ?_
    refine X_calls m_M_isInfinite (As := [.inr (.inl a0)]) (st := []) ok_M_isInfinite rfl rfl rfl (Nat.le_of_ble_eq_true rfl) (Nat.le_of_ble_eq_true rfl) (c_M_isInfinite (d := d + 1) a0) ?_
    rintro _ _ ⟨rfl, rfl⟩
    show X _ _ 8 [some (.inr (.inl a0)), none, some (.inl a1), some (.inl (f_M_power a0)), none, none, none, none, none, none, none, none, none, none] [.inl (b2i (f_M_isInfinite a0))] _ _
    refine X_run 1 (i1 := cond (cn1 .ne (b2i (f_M_isInfinite a0))) 14 9) (L1 := [some (.inr (.inl a0)), none, some (.inl a1), some (.inl (f_M_power a0)), none, none, none, none, none, none, none, none, none, none]) (st1 := []) rfl ?_
    refine X_brq (fun hb8 => ?_) (fun hb8 => ?_)
    · refine X_run 1 (i1 := 15) (L1 := [some (.inr (.inl a0)), none, some (.inl a1), some (.inl (f_M_power a0)), none, none, none, none, none, none, none, none, none, none]) (st1 := [.inr (.inl a0)]) rfl ?_
      exact X_lret rfl rfl ⟨rfl, rfl⟩
    · refine X_run 1 (i1 := 10) (L1 := [some (.inr (.inl a0)), none, some (.inl a1), some (.inl (f_M_power a0)), none, none, none, none, none, none, none, none, none, none]) (st1 := [.inr (.inl a0)]) rfl ?_
      refine X_calls m_M_isZero (As := [.inr (.inl a0)]) (st := []) ok_M_isZero rfl rfl rfl (Nat.le_of_ble_eq_true rfl) (Nat.le_of_ble_eq_true rfl) (c_M_isZero (d := d + 1) a0) ?_
      rintro _ _ ⟨rfl, rfl⟩
      show X _ _ 11 [some (.inr (.inl a0)), none, some (.inl a1), some (.inl (f_M_power a0)), none, none, none, none, none, none, none, none, none, none] [.inl (b2i (f_M_isZero a0))] _ _
      refine X_run 1 (i1 := cond (cn1 .ne (b2i (f_M_isZero a0))) 14 12) (L1 := [some (.inr (.inl a0)), none, some (.inl a1), some (.inl (f_M_power a0)), none, none, none, none, none, none, none, none, none, none]) (st1 := []) rfl ?_
      refine X_brq (fun hb11 => ?_) (fun hb11 => ?_)
      · refine X_run 1 (i1 := 15) (L1 := [some (.inr (.inl a0)), none, some (.inl a1), some (.inl (f_M_power a0)), none, none, none, none, none, none, none, none, none, none]) (st1 := [.inr (.inl a0)]) rfl ?_
        exact X_lret rfl rfl ⟨rfl, rfl⟩
      · refine X_run 2 (i1 := cond (cn1 .lt (f_M_power a0)) 16 14) (L1 := [some (.inr (.inl a0)), none, some (.inl a1), some (.inl (f_M_power a0)), none, none, none, none, none, none, none, none, none, none]) (st1 := []) rfl ?_
        refine X_brq (fun hb13 => ?_) (fun hb13 => ?_)
        · refine X_run 1 (i1 := 17) (L1 := [some (.inr (.inl a0)), none, some (.inl a1), some (.inl (f_M_power a0)), none, none, none, none, none, none, none, none, none, none]) (st1 := [.inr (.inl a0)]) rfl ?_
          refine X_calls m_M_mantissa (As := [.inr (.inl a0)]) (st := []) ok_M_mantissa rfl rfl rfl (Nat.le_of_ble_eq_true rfl) (Nat.le_of_ble_eq_true rfl) (c_M_mantissa (d := d + 1) a0) ?_
          rintro _ _ ⟨rfl, rfl⟩
          show X _ _ 18 [some (.inr (.inl a0)), none, some (.inl a1), some (.inl (f_M_power a0)), none, none, none, none, none, none, none, none, none, none] [.inr (.inl (f_M_mantissa a0))] _ _
          refine X_run 7 (i1 := cond (cn2 .le (-(f_M_power a0)) (53 : Int32)) 27 25) (L1 := [some (.inr (.inl a0)), none, some (.inl a1), some (.inl (f_M_power a0)), some (.inr (.inl (f_M_mantissa a0))), none, some (.inl (-(f_M_power a0))), none, none, none, none, none, none, none]) (st1 := []) rfl ?_
          refine X_brq (fun hb24 => ?_) (fun hb24 => ?_)
          · refine X_run 3 (i1 := 30) (L1 := [some (.inr (.inl a0)), none, some (.inl a1), some (.inl (f_M_power a0)), some (.inr (.inl (f_M_mantissa a0))), none, some (.inl (-(f_M_power a0))), none, none, none, none, none, none, none]) (st1 := [.inr (.inl ((Int64.toUInt64 (f_M_mantissa a0) >>> (Int64.toUInt64 (Int32.toInt64 (-(f_M_power a0))) &&& Int64.toUInt64 63)).toInt64))]) rfl ?_
            refine X_mask [true, true, true, false, true, true, true, true, true, true, true, true, true, true] ?_
            exact ct_M_even_30 a0 a1 (f_M_mantissa a0) (-(f_M_power a0)) ((Int64.toUInt64 (f_M_mantissa a0) >>> (Int64.toUInt64 (Int32.toInt64 (-(f_M_power a0))) &&& Int64.toUInt64 63)).toInt64)
          · refine X_run 2 (i1 := 30) (L1 := [some (.inr (.inl a0)), none, some (.inl a1), some (.inl (f_M_power a0)), some (.inr (.inl (f_M_mantissa a0))), none, some (.inl (-(f_M_power a0))), none, none, none, none, none, none, none]) (st1 := [.inr (.inl (0 : Int64))]) rfl ?_
            refine X_mask [true, true, true, false, true, true, true, true, true, true, true, true, true, true] ?_
            exact ct_M_even_30 a0 a1 (f_M_mantissa a0) (-(f_M_power a0)) (0 : Int64)
        · refine X_run 1 (i1 := 15) (L1 := [some (.inr (.inl a0)), none, some (.inl a1), some (.inl (f_M_power a0)), none, none, none, none, none, none, none, none, none, none]) (st1 := [.inr (.inl a0)]) rfl ?_
          exact X_lret rfl rfl ⟨rfl, rfl⟩
def f_M_above (a0 : Int64) : Int64 := (cond (cn1 .ne (b2i (f_M_isNo a0))) a0 (cond (cn1 .ne (lg_cmp a0 (9218868437227405312 : Int64))) (cond (cn1 .eq (b2i (f_M_isZero a0))) (cond (cn1 .ge (lg_cmp a0 (0 : Int64))) (a0 + (1 : Int64)) (a0 - (1 : Int64))) (1 : Int64)) a0))
theorem c_M_above {d : Nat} {P : AP} (a0 : Int64) : X m_M_above (d + 1) 0 (entL 2 [.inr (.inl a0)]) [] P (qL P (f_M_above a0)) := by
  unfold f_M_above
  refine X_run 1 (i1 := 1) (L1 := [some (.inr (.inl a0)), none]) (st1 := [.inr (.inl a0)]) rfl ?_
  refine X_calls m_M_isNo (As := [.inr (.inl a0)]) (st := []) ok_M_isNo rfl rfl rfl (Nat.le_of_ble_eq_true rfl) (Nat.le_of_ble_eq_true rfl) (c_M_isNo (d := d) a0) ?_
  rintro _ _ ⟨rfl, rfl⟩
  show X _ _ 2 [some (.inr (.inl a0)), none] [.inl (b2i (f_M_isNo a0))] _ _
  refine X_run 1 (i1 := cond (cn1 .ne (b2i (f_M_isNo a0))) 7 3) (L1 := [some (.inr (.inl a0)), none]) (st1 := []) rfl ?_
  refine X_brq (fun hb2 => ?_) (fun hb2 => ?_)
  · refine X_run 1 (i1 := 8) (L1 := [some (.inr (.inl a0)), none]) (st1 := [.inr (.inl a0)]) rfl ?_
    exact X_lret rfl rfl ⟨rfl, rfl⟩
  · refine X_run 4 (i1 := cond (cn1 .ne (lg_cmp a0 (9218868437227405312 : Int64))) 9 7) (L1 := [some (.inr (.inl a0)), none]) (st1 := []) rfl ?_
    refine X_brq (fun hb6 => ?_) (fun hb6 => ?_)
    · refine X_run 1 (i1 := 10) (L1 := [some (.inr (.inl a0)), none]) (st1 := [.inr (.inl a0)]) rfl ?_
      refine X_calls m_M_isZero (As := [.inr (.inl a0)]) (st := []) ok_M_isZero rfl rfl rfl (Nat.le_of_ble_eq_true rfl) (Nat.le_of_ble_eq_true rfl) (c_M_isZero (d := d) a0) ?_
      rintro _ _ ⟨rfl, rfl⟩
      show X _ _ 11 [some (.inr (.inl a0)), none] [.inl (b2i (f_M_isZero a0))] _ _
      refine X_run 1 (i1 := cond (cn1 .eq (b2i (f_M_isZero a0))) 14 12) (L1 := [some (.inr (.inl a0)), none]) (st1 := []) rfl ?_
      refine X_brq (fun hb11 => ?_) (fun hb11 => ?_)
      · refine X_run 4 (i1 := cond (cn1 .ge (lg_cmp a0 (0 : Int64))) 22 18) (L1 := [some (.inr (.inl a0)), none]) (st1 := []) rfl ?_
        refine X_brq (fun hb17 => ?_) (fun hb17 => ?_)
        · refine X_run 3 (i1 := 25) (L1 := [some (.inr (.inl a0)), none]) (st1 := [.inr (.inl (a0 + (1 : Int64)))]) rfl ?_
          exact X_lret rfl rfl ⟨rfl, rfl⟩
        · refine X_run 4 (i1 := 25) (L1 := [some (.inr (.inl a0)), none]) (st1 := [.inr (.inl (a0 - (1 : Int64)))]) rfl ?_
          exact X_lret rfl rfl ⟨rfl, rfl⟩
      · refine X_run 2 (i1 := 25) (L1 := [some (.inr (.inl a0)), none]) (st1 := [.inr (.inl (1 : Int64))]) rfl ?_
        exact X_lret rfl rfl ⟨rfl, rfl⟩
    · refine X_run 1 (i1 := 8) (L1 := [some (.inr (.inl a0)), none]) (st1 := [.inr (.inl a0)]) rfl ?_
      exact X_lret rfl rfl ⟨rfl, rfl⟩
def f_M_step (a0 : Int64) : Int64 := (cond (cn1 .eq (b2i (f_M_isNo a0))) (cond (cn1 .eq (b2i (f_M_isInfinite a0))) (f_M_packed (1 : Int64) (f_M_power a0) (0 : Int32) (53 : Int32) (-1074 : Int32)) (9218868437227405312 : Int64)) a0)
theorem c_M_step {d : Nat} {P : AP} (a0 : Int64) : X m_M_step (d + 2) 0 (entL 2 [.inr (.inl a0)]) [] P (qL P (f_M_step a0)) := by
  unfold f_M_step
  refine X_run 1 (i1 := 1) (L1 := [some (.inr (.inl a0)), none]) (st1 := [.inr (.inl a0)]) rfl ?_
  refine X_calls m_M_isNo (As := [.inr (.inl a0)]) (st := []) ok_M_isNo rfl rfl rfl (Nat.le_of_ble_eq_true rfl) (Nat.le_of_ble_eq_true rfl) (c_M_isNo (d := d + 1) a0) ?_
  rintro _ _ ⟨rfl, rfl⟩
  show X _ _ 2 [some (.inr (.inl a0)), none] [.inl (b2i (f_M_isNo a0))] _ _
  refine X_run 1 (i1 := cond (cn1 .eq (b2i (f_M_isNo a0))) 5 3) (L1 := [some (.inr (.inl a0)), none]) (st1 := []) rfl ?_
  refine X_brq (fun hb2 => ?_) (fun hb2 => ?_)
  · refine X_run 1 (i1 := 6) (L1 := [some (.inr (.inl a0)), none]) (st1 := [.inr (.inl a0)]) rfl ?_
    refine X_calls m_M_isInfinite (As := [.inr (.inl a0)]) (st := []) ok_M_isInfinite rfl rfl rfl (Nat.le_of_ble_eq_true rfl) (Nat.le_of_ble_eq_true rfl) (c_M_isInfinite (d := d + 1) a0) ?_
    rintro _ _ ⟨rfl, rfl⟩
    show X _ _ 7 [some (.inr (.inl a0)), none] [.inl (b2i (f_M_isInfinite a0))] _ _
    refine X_run 1 (i1 := cond (cn1 .eq (b2i (f_M_isInfinite a0))) 10 8) (L1 := [some (.inr (.inl a0)), none]) (st1 := []) rfl ?_
    refine X_brq (fun hb7 => ?_) (fun hb7 => ?_)
    · refine X_run 2 (i1 := 12) (L1 := [some (.inr (.inl a0)), none]) (st1 := [.inr (.inl a0), .inr (.inl (1 : Int64))]) rfl ?_
      refine X_calls m_M_power (As := [.inr (.inl a0)]) (st := [.inr (.inl (1 : Int64))]) ok_M_power rfl rfl rfl (Nat.le_of_ble_eq_true rfl) (Nat.le_of_ble_eq_true rfl) (c_M_power (d := d + 1) a0) ?_
      rintro _ _ ⟨rfl, rfl⟩
      show X _ _ 13 [some (.inr (.inl a0)), none] [.inl (f_M_power a0), .inr (.inl (1 : Int64))] _ _
      refine X_run 3 (i1 := 16) (L1 := [some (.inr (.inl a0)), none]) (st1 := [.inl (-1074 : Int32), .inl (53 : Int32), .inl (0 : Int32), .inl (f_M_power a0), .inr (.inl (1 : Int64))]) rfl ?_
      refine X_calls m_M_packed (As := [.inr (.inl (1 : Int64)), .inl (f_M_power a0), .inl (0 : Int32), .inl (53 : Int32), .inl (-1074 : Int32)]) (st := []) ok_M_packed rfl rfl rfl (Nat.le_of_ble_eq_true rfl) (Nat.le_of_ble_eq_true rfl) (c_M_packed (d := d) (1 : Int64) (f_M_power a0) (0 : Int32) (53 : Int32) (-1074 : Int32)) ?_
      rintro _ _ ⟨rfl, rfl⟩
      show X _ _ 17 [some (.inr (.inl a0)), none] [.inr (.inl (f_M_packed (1 : Int64) (f_M_power a0) (0 : Int32) (53 : Int32) (-1074 : Int32)))] _ _
      exact X_lret rfl rfl ⟨rfl, rfl⟩
    · refine X_run 1 (i1 := 9) (L1 := [some (.inr (.inl a0)), none]) (st1 := [.inr (.inl (9218868437227405312 : Int64))]) rfl ?_
      exact X_lret rfl rfl ⟨rfl, rfl⟩
  · refine X_run 1 (i1 := 4) (L1 := [some (.inr (.inl a0)), none]) (st1 := [.inr (.inl a0)]) rfl ?_
    exact X_lret rfl rfl ⟨rfl, rfl⟩
def t_M_narrow_12 (v0 : Int64) (w0 : Int32) : Int32 := (cond (cn1 .eq (b2i (f_M_isInfinite v0))) ((Int64.toInt32 (f_M_packed (f_M_mantissa v0) (f_M_power v0) (0 : Int32) (24 : Int32) (-149 : Int32))) ||| w0) ((2139095040 : Int32) ||| w0))
theorem ct_M_narrow_12 {d : Nat} {P : AP} (v0 : Int64) (w0 : Int32) : X m_M_narrow (d + 2) 12 [some (.inr (.inl v0)), none, none] [.inl w0] P (qI P (t_M_narrow_12 v0 w0)) := by
  unfold t_M_narrow_12
  refine X_run 2 (i1 := 14) (L1 := [some (.inr (.inl v0)), none, some (.inl w0)]) (st1 := [.inr (.inl v0)]) rfl ?_
  refine X_calls m_M_isInfinite (As := [.inr (.inl v0)]) (st := []) ok_M_isInfinite rfl rfl rfl (Nat.le_of_ble_eq_true rfl) (Nat.le_of_ble_eq_true rfl) (c_M_isInfinite (d := d + 1) v0) ?_
  rintro _ _ ⟨rfl, rfl⟩
  show X _ _ 15 [some (.inr (.inl v0)), none, some (.inl w0)] [.inl (b2i (f_M_isInfinite v0))] _ _
  refine X_run 1 (i1 := cond (cn1 .eq (b2i (f_M_isInfinite v0))) 20 16) (L1 := [some (.inr (.inl v0)), none, some (.inl w0)]) (st1 := []) rfl ?_
  refine X_brq (fun hb15 => ?_) (fun hb15 => ?_)
  · refine X_run 1 (i1 := 21) (L1 := [some (.inr (.inl v0)), none, some (.inl w0)]) (st1 := [.inr (.inl v0)]) rfl ?_
    refine X_calls m_M_mantissa (As := [.inr (.inl v0)]) (st := []) ok_M_mantissa rfl rfl rfl (Nat.le_of_ble_eq_true rfl) (Nat.le_of_ble_eq_true rfl) (c_M_mantissa (d := d + 1) v0) ?_
    rintro _ _ ⟨rfl, rfl⟩
    show X _ _ 22 [some (.inr (.inl v0)), none, some (.inl w0)] [.inr (.inl (f_M_mantissa v0))] _ _
    refine X_run 1 (i1 := 23) (L1 := [some (.inr (.inl v0)), none, some (.inl w0)]) (st1 := [.inr (.inl v0), .inr (.inl (f_M_mantissa v0))]) rfl ?_
    refine X_calls m_M_power (As := [.inr (.inl v0)]) (st := [.inr (.inl (f_M_mantissa v0))]) ok_M_power rfl rfl rfl (Nat.le_of_ble_eq_true rfl) (Nat.le_of_ble_eq_true rfl) (c_M_power (d := d + 1) v0) ?_
    rintro _ _ ⟨rfl, rfl⟩
    show X _ _ 24 [some (.inr (.inl v0)), none, some (.inl w0)] [.inl (f_M_power v0), .inr (.inl (f_M_mantissa v0))] _ _
    refine X_run 3 (i1 := 27) (L1 := [some (.inr (.inl v0)), none, some (.inl w0)]) (st1 := [.inl (-149 : Int32), .inl (24 : Int32), .inl (0 : Int32), .inl (f_M_power v0), .inr (.inl (f_M_mantissa v0))]) rfl ?_
    refine X_calls m_M_packed (As := [.inr (.inl (f_M_mantissa v0)), .inl (f_M_power v0), .inl (0 : Int32), .inl (24 : Int32), .inl (-149 : Int32)]) (st := []) ok_M_packed rfl rfl rfl (Nat.le_of_ble_eq_true rfl) (Nat.le_of_ble_eq_true rfl) (c_M_packed (d := d) (f_M_mantissa v0) (f_M_power v0) (0 : Int32) (24 : Int32) (-149 : Int32)) ?_
    rintro _ _ ⟨rfl, rfl⟩
    show X _ _ 28 [some (.inr (.inl v0)), none, some (.inl w0)] [.inr (.inl (f_M_packed (f_M_mantissa v0) (f_M_power v0) (0 : Int32) (24 : Int32) (-149 : Int32)))] _ _
    refine X_run 3 (i1 := 31) (L1 := [some (.inr (.inl v0)), none, some (.inl w0)]) (st1 := [.inl ((Int64.toInt32 (f_M_packed (f_M_mantissa v0) (f_M_power v0) (0 : Int32) (24 : Int32) (-149 : Int32))) ||| w0)]) rfl ?_
    exact X_iret rfl rfl ⟨rfl, rfl⟩
  · refine X_run 3 (i1 := 19) (L1 := [some (.inr (.inl v0)), none, some (.inl w0)]) (st1 := [.inl ((2139095040 : Int32) ||| w0)]) rfl ?_
    exact X_iret rfl rfl ⟨rfl, rfl⟩
def f_M_narrow (a0 : Int64) : Int32 := (cond (cn1 .eq (b2i (f_M_isNo a0))) (cond (cn1 .ge (lg_cmp a0 (0 : Int64))) (t_M_narrow_12 a0 (0 : Int32)) (t_M_narrow_12 a0 (-2147483648 : Int32))) (2143289344 : Int32))
theorem c_M_narrow {d : Nat} {P : AP} (a0 : Int64) : X m_M_narrow (d + 2) 0 (entL 3 [.inr (.inl a0)]) [] P (qI P (f_M_narrow a0)) := by
  unfold f_M_narrow
  refine X_run 1 (i1 := 1) (L1 := [some (.inr (.inl a0)), none, none]) (st1 := [.inr (.inl a0)]) rfl ?_
  refine X_calls m_M_isNo (As := [.inr (.inl a0)]) (st := []) ok_M_isNo rfl rfl rfl (Nat.le_of_ble_eq_true rfl) (Nat.le_of_ble_eq_true rfl) (c_M_isNo (d := d + 1) a0) ?_
  rintro _ _ ⟨rfl, rfl⟩
  show X _ _ 2 [some (.inr (.inl a0)), none, none] [.inl (b2i (f_M_isNo a0))] _ _
  refine X_run 1 (i1 := cond (cn1 .eq (b2i (f_M_isNo a0))) 5 3) (L1 := [some (.inr (.inl a0)), none, none]) (st1 := []) rfl ?_
  refine X_brq (fun hb2 => ?_) (fun hb2 => ?_)
  · refine X_run 4 (i1 := cond (cn1 .ge (lg_cmp a0 (0 : Int64))) 11 9) (L1 := [some (.inr (.inl a0)), none, none]) (st1 := []) rfl ?_
    refine X_brq (fun hb8 => ?_) (fun hb8 => ?_)
    · refine X_run 1 (i1 := 12) (L1 := [some (.inr (.inl a0)), none, none]) (st1 := [.inl (0 : Int32)]) rfl ?_
      exact ct_M_narrow_12 a0 (0 : Int32)
    · refine X_run 2 (i1 := 12) (L1 := [some (.inr (.inl a0)), none, none]) (st1 := [.inl (-2147483648 : Int32)]) rfl ?_
      exact ct_M_narrow_12 a0 (-2147483648 : Int32)
  · refine X_run 1 (i1 := 4) (L1 := [some (.inr (.inl a0)), none, none]) (st1 := [.inl (2143289344 : Int32)]) rfl ?_
    exact X_iret rfl rfl ⟨rfl, rfl⟩
def t_M_wide_39 (v1 : Int32) (v2 : Int32) (v3 : Int32) : Int64 := (cond (cn1 .ne v1) (f_M_signed v3 (Int32.toInt64 (v2 ||| (8388608 : Int32))) (v1 - (150 : Int32)) (0 : Int32)) (f_M_signed v3 (Int32.toInt64 v2) (-149 : Int32) (0 : Int32)))
theorem ct_M_wide_39 {d : Nat} {P : AP} (v1 : Int32) (v2 : Int32) (v3 : Int32) : X m_M_wide (d + 3) 39 [none, some (.inl v1), some (.inl v2), some (.inl v3)] [] P (qL P (t_M_wide_39 v1 v2 v3)) := by
  unfold t_M_wide_39
  refine X_run 2 (i1 := cond (cn1 .ne v1) 48 41) (L1 := [none, some (.inl v1), some (.inl v2), some (.inl v3)]) (st1 := []) rfl ?_
  refine X_brq (fun hb40 => ?_) (fun hb40 => ?_)
  · refine X_run 9 (i1 := 57) (L1 := [none, some (.inl v1), some (.inl v2), some (.inl v3)]) (st1 := [.inl (0 : Int32), .inl (v1 - (150 : Int32)), .inr (.inl (Int32.toInt64 (v2 ||| (8388608 : Int32)))), .inl v3]) rfl ?_
    refine X_calls m_M_signed (As := [.inl v3, .inr (.inl (Int32.toInt64 (v2 ||| (8388608 : Int32)))), .inl (v1 - (150 : Int32)), .inl (0 : Int32)]) (st := []) ok_M_signed rfl rfl rfl (Nat.le_of_ble_eq_true rfl) (Nat.le_of_ble_eq_true rfl) (c_M_signed (d := d) v3 (Int32.toInt64 (v2 ||| (8388608 : Int32))) (v1 - (150 : Int32)) (0 : Int32)) ?_
    rintro _ _ ⟨rfl, rfl⟩
    show X _ _ 58 [none, some (.inl v1), some (.inl v2), some (.inl v3)] [.inr (.inl (f_M_signed v3 (Int32.toInt64 (v2 ||| (8388608 : Int32))) (v1 - (150 : Int32)) (0 : Int32)))] _ _
    exact X_lret rfl rfl ⟨rfl, rfl⟩
  · refine X_run 5 (i1 := 46) (L1 := [none, some (.inl v1), some (.inl v2), some (.inl v3)]) (st1 := [.inl (0 : Int32), .inl (-149 : Int32), .inr (.inl (Int32.toInt64 v2)), .inl v3]) rfl ?_
    refine X_calls m_M_signed (As := [.inl v3, .inr (.inl (Int32.toInt64 v2)), .inl (-149 : Int32), .inl (0 : Int32)]) (st := []) ok_M_signed rfl rfl rfl (Nat.le_of_ble_eq_true rfl) (Nat.le_of_ble_eq_true rfl) (c_M_signed (d := d) v3 (Int32.toInt64 v2) (-149 : Int32) (0 : Int32)) ?_
    rintro _ _ ⟨rfl, rfl⟩
    show X _ _ 47 [none, some (.inl v1), some (.inl v2), some (.inl v3)] [.inr (.inl (f_M_signed v3 (Int32.toInt64 v2) (-149 : Int32) (0 : Int32)))] _ _
    refine X_run 1 (i1 := 58) (L1 := [none, some (.inl v1), some (.inl v2), some (.inl v3)]) (st1 := [.inr (.inl (f_M_signed v3 (Int32.toInt64 v2) (-149 : Int32) (0 : Int32)))]) rfl ?_
    exact X_lret rfl rfl ⟨rfl, rfl⟩
def t_M_wide_15 (v1 : Int32) (v2 : Int32) (w0 : Int32) : Int64 := (cond (cn2 .ne v1 (255 : Int32)) (cond (cn1 .ne v1) (t_M_wide_39 v1 v2 w0) (cond (cn1 .ne v2) (t_M_wide_39 v1 v2 w0) (cond (cn1 .eq w0) (0 : Int64) (-9223372036854775808 : Int64)))) (cond (cn1 .eq v2) (cond (cn1 .eq w0) (9218868437227405312 : Int64) (-4503599627370496 : Int64)) (9221120237041090560 : Int64)))
theorem ct_M_wide_15 {d : Nat} {P : AP} (v1 : Int32) (v2 : Int32) (w0 : Int32) : X m_M_wide (d + 3) 15 [none, some (.inl v1), some (.inl v2), none] [.inl w0] P (qL P (t_M_wide_15 v1 v2 w0)) := by
  unfold t_M_wide_15
  refine X_run 4 (i1 := cond (cn2 .ne v1 (255 : Int32)) 29 19) (L1 := [none, some (.inl v1), some (.inl v2), some (.inl w0)]) (st1 := []) rfl ?_
  refine X_brq (fun hb18 => ?_) (fun hb18 => ?_)
  · refine X_run 2 (i1 := cond (cn1 .ne v1) 39 31) (L1 := [none, some (.inl v1), some (.inl v2), some (.inl w0)]) (st1 := []) rfl ?_
    refine X_brq (fun hb30 => ?_) (fun hb30 => ?_)
    · exact ct_M_wide_39 v1 v2 w0
    · refine X_run 2 (i1 := cond (cn1 .ne v2) 39 33) (L1 := [none, some (.inl v1), some (.inl v2), some (.inl w0)]) (st1 := []) rfl ?_
      refine X_brq (fun hb32 => ?_) (fun hb32 => ?_)
      · exact ct_M_wide_39 v1 v2 w0
      · refine X_run 2 (i1 := cond (cn1 .eq w0) 37 35) (L1 := [none, some (.inl v1), some (.inl v2), some (.inl w0)]) (st1 := []) rfl ?_
        refine X_brq (fun hb34 => ?_) (fun hb34 => ?_)
        · refine X_run 1 (i1 := 38) (L1 := [none, some (.inl v1), some (.inl v2), some (.inl w0)]) (st1 := [.inr (.inl (0 : Int64))]) rfl ?_
          exact X_lret rfl rfl ⟨rfl, rfl⟩
        · refine X_run 2 (i1 := 38) (L1 := [none, some (.inl v1), some (.inl v2), some (.inl w0)]) (st1 := [.inr (.inl (-9223372036854775808 : Int64))]) rfl ?_
          exact X_lret rfl rfl ⟨rfl, rfl⟩
  · refine X_run 2 (i1 := cond (cn1 .eq v2) 23 21) (L1 := [none, some (.inl v1), some (.inl v2), some (.inl w0)]) (st1 := []) rfl ?_
    refine X_brq (fun hb20 => ?_) (fun hb20 => ?_)
    · refine X_run 2 (i1 := cond (cn1 .eq w0) 27 25) (L1 := [none, some (.inl v1), some (.inl v2), some (.inl w0)]) (st1 := []) rfl ?_
      refine X_brq (fun hb24 => ?_) (fun hb24 => ?_)
      · refine X_run 1 (i1 := 28) (L1 := [none, some (.inl v1), some (.inl v2), some (.inl w0)]) (st1 := [.inr (.inl (9218868437227405312 : Int64))]) rfl ?_
        exact X_lret rfl rfl ⟨rfl, rfl⟩
      · refine X_run 2 (i1 := 28) (L1 := [none, some (.inl v1), some (.inl v2), some (.inl w0)]) (st1 := [.inr (.inl (-4503599627370496 : Int64))]) rfl ?_
        exact X_lret rfl rfl ⟨rfl, rfl⟩
    · refine X_run 2 (i1 := 28) (L1 := [none, some (.inl v1), some (.inl v2), some (.inl w0)]) (st1 := [.inr (.inl (9221120237041090560 : Int64))]) rfl ?_
      exact X_lret rfl rfl ⟨rfl, rfl⟩
def f_M_wide (a0 : Int32) : Int64 := (cond (cn1 .ge a0) (t_M_wide_15 (((Int32.toUInt32 a0 >>> (Int32.toUInt32 (23 : Int32) &&& Int32.toUInt32 31)).toInt32) &&& (255 : Int32)) (a0 &&& (8388607 : Int32)) (0 : Int32)) (t_M_wide_15 (((Int32.toUInt32 a0 >>> (Int32.toUInt32 (23 : Int32) &&& Int32.toUInt32 31)).toInt32) &&& (255 : Int32)) (a0 &&& (8388607 : Int32)) (1 : Int32)))
theorem c_M_wide {d : Nat} {P : AP} (a0 : Int32) : X m_M_wide (d + 3) 0 (entL 4 [.inl a0]) [] P (qL P (f_M_wide a0)) := by
  unfold f_M_wide
  refine X_run 12 (i1 := cond (cn1 .ge a0) 14 12) (L1 := [some (.inl a0), some (.inl (((Int32.toUInt32 a0 >>> (Int32.toUInt32 (23 : Int32) &&& Int32.toUInt32 31)).toInt32) &&& (255 : Int32))), some (.inl (a0 &&& (8388607 : Int32))), none]) (st1 := []) rfl ?_
  refine X_brq (fun hb11 => ?_) (fun hb11 => ?_)
  · refine X_run 1 (i1 := 15) (L1 := [some (.inl a0), some (.inl (((Int32.toUInt32 a0 >>> (Int32.toUInt32 (23 : Int32) &&& Int32.toUInt32 31)).toInt32) &&& (255 : Int32))), some (.inl (a0 &&& (8388607 : Int32))), none]) (st1 := [.inl (0 : Int32)]) rfl ?_
    refine X_mask [false, true, true, true] ?_
    exact ct_M_wide_15 (((Int32.toUInt32 a0 >>> (Int32.toUInt32 (23 : Int32) &&& Int32.toUInt32 31)).toInt32) &&& (255 : Int32)) (a0 &&& (8388607 : Int32)) (0 : Int32)
  · refine X_run 2 (i1 := 15) (L1 := [some (.inl a0), some (.inl (((Int32.toUInt32 a0 >>> (Int32.toUInt32 (23 : Int32) &&& Int32.toUInt32 31)).toInt32) &&& (255 : Int32))), some (.inl (a0 &&& (8388607 : Int32))), none]) (st1 := [.inl (1 : Int32)]) rfl ?_
    refine X_mask [false, true, true, true] ?_
    exact ct_M_wide_15 (((Int32.toUInt32 a0 >>> (Int32.toUInt32 (23 : Int32) &&& Int32.toUInt32 31)).toInt32) &&& (255 : Int32)) (a0 &&& (8388607 : Int32)) (1 : Int32)
def f_M_keptNarrow (a0 : Int32) : Int32 := (cond (cn2 .le (a0 &&& (2147483647 : Int32)) (2139095040 : Int32)) a0 (2143289344 : Int32))
theorem c_M_keptNarrow {d : Nat} {P : AP} (a0 : Int32) : X m_M_keptNarrow (d) 0 (entL 1 [.inl a0]) [] P (qI P (f_M_keptNarrow a0)) := by
  unfold f_M_keptNarrow
  refine X_run 5 (i1 := cond (cn2 .le (a0 &&& (2147483647 : Int32)) (2139095040 : Int32)) 7 5) (L1 := [some (.inl a0)]) (st1 := []) rfl ?_
  refine X_brq (fun hb4 => ?_) (fun hb4 => ?_)
  · refine X_run 1 (i1 := 8) (L1 := [some (.inl a0)]) (st1 := [.inl a0]) rfl ?_
    exact X_iret rfl rfl ⟨rfl, rfl⟩
  · refine X_run 2 (i1 := 8) (L1 := [some (.inl a0)]) (st1 := [.inl (2143289344 : Int32)]) rfl ?_
    exact X_iret rfl rfl ⟨rfl, rfl⟩
def t_M_two_67 (v0 : Int64) (v2 : Int64) (w0 : Int32) (w1 : Int32) : Int64 := (cond (cn2 .ne w1 w0) v0 v2)
theorem ct_M_two_67 {d : Nat} {P : AP} (v0 : Int64) (v2 : Int64) (w0 : Int32) (w1 : Int32) : X m_M_two (d + 4) 67 [some (.inr (.inl v0)), none, some (.inr (.inl v2)), none, none] [.inl w0, .inl w1] P (qL P (t_M_two_67 v0 v2 w0 w1)) := by
  unfold t_M_two_67
  refine X_run 1 (i1 := cond (cn2 .ne w1 w0) 70 68) (L1 := [some (.inr (.inl v0)), none, some (.inr (.inl v2)), none, none]) (st1 := []) rfl ?_
  refine X_brq (fun hb67 => ?_) (fun hb67 => ?_)
  · refine X_run 1 (i1 := 71) (L1 := [some (.inr (.inl v0)), none, some (.inr (.inl v2)), none, none]) (st1 := [.inr (.inl v0)]) rfl ?_
    exact X_lret rfl rfl ⟨rfl, rfl⟩
  · refine X_run 2 (i1 := 71) (L1 := [some (.inr (.inl v0)), none, some (.inr (.inl v2)), none, none]) (st1 := [.inr (.inl v2)]) rfl ?_
    exact X_lret rfl rfl ⟨rfl, rfl⟩
def t_M_two_61 (v0 : Int64) (v2 : Int64) (v4 : Int32) (w0 : Int32) : Int64 := (cond (cn2 .ne v4 (5 : Int32)) (t_M_two_67 v0 v2 (0 : Int32) w0) (t_M_two_67 v0 v2 (1 : Int32) w0))
theorem ct_M_two_61 {d : Nat} {P : AP} (v0 : Int64) (v2 : Int64) (v4 : Int32) (w0 : Int32) : X m_M_two (d + 4) 61 [some (.inr (.inl v0)), none, some (.inr (.inl v2)), none, some (.inl v4)] [.inl w0] P (qL P (t_M_two_61 v0 v2 v4 w0)) := by
  unfold t_M_two_61
  refine X_run 3 (i1 := cond (cn2 .ne v4 (5 : Int32)) 66 64) (L1 := [some (.inr (.inl v0)), none, some (.inr (.inl v2)), none, some (.inl v4)]) (st1 := [.inl w0]) rfl ?_
  refine X_brq (fun hb63 => ?_) (fun hb63 => ?_)
  · refine X_run 1 (i1 := 67) (L1 := [some (.inr (.inl v0)), none, some (.inr (.inl v2)), none, some (.inl v4)]) (st1 := [.inl (0 : Int32), .inl w0]) rfl ?_
    refine X_mask [true, true, true, true, false] ?_
    exact ct_M_two_67 v0 v2 (0 : Int32) w0
  · refine X_run 2 (i1 := 67) (L1 := [some (.inr (.inl v0)), none, some (.inr (.inl v2)), none, some (.inl v4)]) (st1 := [.inl (1 : Int32), .inl w0]) rfl ?_
    refine X_mask [true, true, true, true, false] ?_
    exact ct_M_two_67 v0 v2 (1 : Int32) w0
def t_M_two_54 (v0 : Int64) (v2 : Int64) (v4 : Int32) : Int64 := (cond (cn1 .ge (f_M_order v0 v2)) (t_M_two_61 v0 v2 v4 (0 : Int32)) (t_M_two_61 v0 v2 v4 (1 : Int32)))
theorem ct_M_two_54 {d : Nat} {P : AP} (v0 : Int64) (v2 : Int64) (v4 : Int32) : X m_M_two (d + 4) 54 [some (.inr (.inl v0)), none, some (.inr (.inl v2)), none, some (.inl v4)] [] P (qL P (t_M_two_54 v0 v2 v4)) := by
  unfold t_M_two_54
  refine X_run 2 (i1 := 56) (L1 := [some (.inr (.inl v0)), none, some (.inr (.inl v2)), none, some (.inl v4)]) (st1 := [.inr (.inl v2), .inr (.inl v0)]) rfl ?_
  refine X_calls m_M_order (As := [.inr (.inl v0), .inr (.inl v2)]) (st := []) ok_M_order rfl rfl rfl (Nat.le_of_ble_eq_true rfl) (Nat.le_of_ble_eq_true rfl) (c_M_order (d := d + 2) v0 v2) ?_
  rintro _ _ ⟨rfl, rfl⟩
  show X _ _ 57 [some (.inr (.inl v0)), none, some (.inr (.inl v2)), none, some (.inl v4)] [.inl (f_M_order v0 v2)] _ _
  refine X_run 1 (i1 := cond (cn1 .ge (f_M_order v0 v2)) 60 58) (L1 := [some (.inr (.inl v0)), none, some (.inr (.inl v2)), none, some (.inl v4)]) (st1 := []) rfl ?_
  refine X_brq (fun hb57 => ?_) (fun hb57 => ?_)
  · refine X_run 1 (i1 := 61) (L1 := [some (.inr (.inl v0)), none, some (.inr (.inl v2)), none, some (.inl v4)]) (st1 := [.inl (0 : Int32)]) rfl ?_
    exact ct_M_two_61 v0 v2 v4 (0 : Int32)
  · refine X_run 2 (i1 := 61) (L1 := [some (.inr (.inl v0)), none, some (.inr (.inl v2)), none, some (.inl v4)]) (st1 := [.inl (1 : Int32)]) rfl ?_
    exact ct_M_two_61 v0 v2 v4 (1 : Int32)
def t_M_two_15 (w0 : Int64) (w1 : Int64) : Int64 := (f_M_added w1 w0)
theorem ct_M_two_15 {d : Nat} {P : AP} (w0 : Int64) (w1 : Int64) : X m_M_two (d + 4) 15 [none, none, none, none, none] [.inr (.inl w0), .inr (.inl w1)] P (qL P (t_M_two_15 w0 w1)) := by
  unfold t_M_two_15
  refine X_calls m_M_added (As := [.inr (.inl w1), .inr (.inl w0)]) (st := []) ok_M_added rfl rfl rfl (Nat.le_of_ble_eq_true rfl) (Nat.le_of_ble_eq_true rfl) (c_M_added (d := d) w1 w0) ?_
  rintro _ _ ⟨rfl, rfl⟩
  show X _ _ 16 [none, none, none, none, none] [.inr (.inl (f_M_added w1 w0))] _ _
  exact X_lret rfl rfl ⟨rfl, rfl⟩
def f_M_two (a0 : Int64) (a1 : Int64) (a2 : Int32) : Int64 := (if a2 = (0 : Int32) then (f_M_added a0 a1) else (if a2 = (1 : Int32) then (cond (cn1 .eq (b2i (f_M_isNo a1))) (t_M_two_15 (a1 ^^^ (-9223372036854775808 : Int64)) a0) (t_M_two_15 a1 a0)) else (if a2 = (2 : Int32) then (f_M_times a0 a1) else (if a2 = (3 : Int32) then (f_M_by a0 a1) else (if a2 = (4 : Int32) then (f_M_left a0 a1) else (if a2 = (5 : Int32) then (cond (cn1 .ne (b2i (f_M_isNo a0))) (9221120237041090560 : Int64) (cond (cn1 .eq (b2i (f_M_isNo a1))) (cond (cn1 .eq (b2i (f_M_isZero a0))) (t_M_two_54 a0 a1 a2) (cond (cn1 .eq (b2i (f_M_isZero a1))) (t_M_two_54 a0 a1 a2) (cond (cn2 .ne a2 (5 : Int32)) (a0 ||| a1) (a0 &&& a1)))) (9221120237041090560 : Int64))) else (if a2 = (6 : Int32) then (cond (cn1 .ne (b2i (f_M_isNo a0))) (9221120237041090560 : Int64) (cond (cn1 .eq (b2i (f_M_isNo a1))) (cond (cn1 .eq (b2i (f_M_isZero a0))) (t_M_two_54 a0 a1 a2) (cond (cn1 .eq (b2i (f_M_isZero a1))) (t_M_two_54 a0 a1 a2) (cond (cn2 .ne a2 (5 : Int32)) (a0 ||| a1) (a0 &&& a1)))) (9221120237041090560 : Int64))) else (cond (cn1 .eq (b2i (f_M_isNo a0))) (cond (cn1 .eq (b2i (f_M_isNo a1))) ((a0 &&& (9223372036854775807 : Int64)) ||| (a1 &&& (-9223372036854775808 : Int64))) ((a0 &&& (9223372036854775807 : Int64)) ||| (0 : Int64))) a0))))))))
theorem c_M_two {d : Nat} {P : AP} (a0 : Int64) (a1 : Int64) (a2 : Int32) : X m_M_two (d + 4) 0 (entL 5 [.inr (.inl a0), .inr (.inl a1), .inl a2]) [] P (qL P (f_M_two a0 a1 a2)) := by
  unfold f_M_two
  refine X_run 1 (i1 := 1) (L1 := [some (.inr (.inl a0)), none, some (.inr (.inl a1)), none, some (.inl a2)]) (st1 := [.inl a2]) rfl ?_
  refine X_itq (fun h => ?_) (fun h1_0 => ?_)
  · refine X_tsk rfl h rfl ?_
    refine X_run 2 (i1 := 4) (L1 := [some (.inr (.inl a0)), none, some (.inr (.inl a1)), none, some (.inl a2)]) (st1 := [.inr (.inl a1), .inr (.inl a0)]) rfl ?_
    refine X_calls m_M_added (As := [.inr (.inl a0), .inr (.inl a1)]) (st := []) ok_M_added rfl rfl rfl (Nat.le_of_ble_eq_true rfl) (Nat.le_of_ble_eq_true rfl) (c_M_added (d := d) a0 a1) ?_
    rintro _ _ ⟨rfl, rfl⟩
    show X _ _ 5 [some (.inr (.inl a0)), none, some (.inr (.inl a1)), none, some (.inl a2)] [.inr (.inl (f_M_added a0 a1))] _ _
    exact X_lret rfl rfl ⟨rfl, rfl⟩
  refine X_itq (fun h => ?_) (fun h1_1 => ?_)
  · refine X_tsk rfl h rfl ?_
    refine X_run 2 (i1 := 8) (L1 := [some (.inr (.inl a0)), none, some (.inr (.inl a1)), none, some (.inl a2)]) (st1 := [.inr (.inl a1), .inr (.inl a0)]) rfl ?_
    refine X_calls m_M_isNo (As := [.inr (.inl a1)]) (st := [.inr (.inl a0)]) ok_M_isNo rfl rfl rfl (Nat.le_of_ble_eq_true rfl) (Nat.le_of_ble_eq_true rfl) (c_M_isNo (d := d + 3) a1) ?_
    rintro _ _ ⟨rfl, rfl⟩
    show X _ _ 9 [some (.inr (.inl a0)), none, some (.inr (.inl a1)), none, some (.inl a2)] [.inl (b2i (f_M_isNo a1)), .inr (.inl a0)] _ _
    refine X_run 1 (i1 := cond (cn1 .eq (b2i (f_M_isNo a1))) 12 10) (L1 := [some (.inr (.inl a0)), none, some (.inr (.inl a1)), none, some (.inl a2)]) (st1 := [.inr (.inl a0)]) rfl ?_
    refine X_brq (fun hb9 => ?_) (fun hb9 => ?_)
    · refine X_run 3 (i1 := 15) (L1 := [some (.inr (.inl a0)), none, some (.inr (.inl a1)), none, some (.inl a2)]) (st1 := [.inr (.inl (a1 ^^^ (-9223372036854775808 : Int64))), .inr (.inl a0)]) rfl ?_
      refine X_mask [false, true, false, true, false] ?_
      exact ct_M_two_15 (a1 ^^^ (-9223372036854775808 : Int64)) a0
    · refine X_run 2 (i1 := 15) (L1 := [some (.inr (.inl a0)), none, some (.inr (.inl a1)), none, some (.inl a2)]) (st1 := [.inr (.inl a1), .inr (.inl a0)]) rfl ?_
      refine X_mask [false, true, false, true, false] ?_
      exact ct_M_two_15 a1 a0
  refine X_itq (fun h => ?_) (fun h1_2 => ?_)
  · refine X_tsk rfl h rfl ?_
    refine X_run 2 (i1 := 19) (L1 := [some (.inr (.inl a0)), none, some (.inr (.inl a1)), none, some (.inl a2)]) (st1 := [.inr (.inl a1), .inr (.inl a0)]) rfl ?_
    refine X_calls m_M_times (As := [.inr (.inl a0), .inr (.inl a1)]) (st := []) ok_M_times rfl rfl rfl (Nat.le_of_ble_eq_true rfl) (Nat.le_of_ble_eq_true rfl) (c_M_times (d := d) a0 a1) ?_
    rintro _ _ ⟨rfl, rfl⟩
    show X _ _ 20 [some (.inr (.inl a0)), none, some (.inr (.inl a1)), none, some (.inl a2)] [.inr (.inl (f_M_times a0 a1))] _ _
    exact X_lret rfl rfl ⟨rfl, rfl⟩
  refine X_itq (fun h => ?_) (fun h1_3 => ?_)
  · refine X_tsk rfl h rfl ?_
    refine X_run 2 (i1 := 23) (L1 := [some (.inr (.inl a0)), none, some (.inr (.inl a1)), none, some (.inl a2)]) (st1 := [.inr (.inl a1), .inr (.inl a0)]) rfl ?_
    refine X_calls m_M_by (As := [.inr (.inl a0), .inr (.inl a1)]) (st := []) ok_M_by rfl rfl rfl (Nat.le_of_ble_eq_true rfl) (Nat.le_of_ble_eq_true rfl) (c_M_by (d := d) a0 a1) ?_
    rintro _ _ ⟨rfl, rfl⟩
    show X _ _ 24 [some (.inr (.inl a0)), none, some (.inr (.inl a1)), none, some (.inl a2)] [.inr (.inl (f_M_by a0 a1))] _ _
    exact X_lret rfl rfl ⟨rfl, rfl⟩
  refine X_itq (fun h => ?_) (fun h1_4 => ?_)
  · refine X_tsk rfl h rfl ?_
    refine X_run 2 (i1 := 27) (L1 := [some (.inr (.inl a0)), none, some (.inr (.inl a1)), none, some (.inl a2)]) (st1 := [.inr (.inl a1), .inr (.inl a0)]) rfl ?_
    refine X_calls m_M_left (As := [.inr (.inl a0), .inr (.inl a1)]) (st := []) ok_M_left rfl rfl rfl (Nat.le_of_ble_eq_true rfl) (Nat.le_of_ble_eq_true rfl) (c_M_left (d := d) a0 a1) ?_
    rintro _ _ ⟨rfl, rfl⟩
    show X _ _ 28 [some (.inr (.inl a0)), none, some (.inr (.inl a1)), none, some (.inl a2)] [.inr (.inl (f_M_left a0 a1))] _ _
    exact X_lret rfl rfl ⟨rfl, rfl⟩
  refine X_itq (fun h => ?_) (fun h1_5 => ?_)
  · refine X_tsk rfl h rfl ?_
    refine X_run 1 (i1 := 30) (L1 := [some (.inr (.inl a0)), none, some (.inr (.inl a1)), none, some (.inl a2)]) (st1 := [.inr (.inl a0)]) rfl ?_
    refine X_calls m_M_isNo (As := [.inr (.inl a0)]) (st := []) ok_M_isNo rfl rfl rfl (Nat.le_of_ble_eq_true rfl) (Nat.le_of_ble_eq_true rfl) (c_M_isNo (d := d + 3) a0) ?_
    rintro _ _ ⟨rfl, rfl⟩
    show X _ _ 31 [some (.inr (.inl a0)), none, some (.inr (.inl a1)), none, some (.inl a2)] [.inl (b2i (f_M_isNo a0))] _ _
    refine X_run 1 (i1 := cond (cn1 .ne (b2i (f_M_isNo a0))) 35 32) (L1 := [some (.inr (.inl a0)), none, some (.inr (.inl a1)), none, some (.inl a2)]) (st1 := []) rfl ?_
    refine X_brq (fun hb31 => ?_) (fun hb31 => ?_)
    · refine X_run 1 (i1 := 36) (L1 := [some (.inr (.inl a0)), none, some (.inr (.inl a1)), none, some (.inl a2)]) (st1 := [.inr (.inl (9221120237041090560 : Int64))]) rfl ?_
      exact X_lret rfl rfl ⟨rfl, rfl⟩
    · refine X_run 1 (i1 := 33) (L1 := [some (.inr (.inl a0)), none, some (.inr (.inl a1)), none, some (.inl a2)]) (st1 := [.inr (.inl a1)]) rfl ?_
      refine X_calls m_M_isNo (As := [.inr (.inl a1)]) (st := []) ok_M_isNo rfl rfl rfl (Nat.le_of_ble_eq_true rfl) (Nat.le_of_ble_eq_true rfl) (c_M_isNo (d := d + 3) a1) ?_
      rintro _ _ ⟨rfl, rfl⟩
      show X _ _ 34 [some (.inr (.inl a0)), none, some (.inr (.inl a1)), none, some (.inl a2)] [.inl (b2i (f_M_isNo a1))] _ _
      refine X_run 1 (i1 := cond (cn1 .eq (b2i (f_M_isNo a1))) 37 35) (L1 := [some (.inr (.inl a0)), none, some (.inr (.inl a1)), none, some (.inl a2)]) (st1 := []) rfl ?_
      refine X_brq (fun hb34 => ?_) (fun hb34 => ?_)
      · refine X_run 1 (i1 := 38) (L1 := [some (.inr (.inl a0)), none, some (.inr (.inl a1)), none, some (.inl a2)]) (st1 := [.inr (.inl a0)]) rfl ?_
        refine X_calls m_M_isZero (As := [.inr (.inl a0)]) (st := []) ok_M_isZero rfl rfl rfl (Nat.le_of_ble_eq_true rfl) (Nat.le_of_ble_eq_true rfl) (c_M_isZero (d := d + 3) a0) ?_
        rintro _ _ ⟨rfl, rfl⟩
        show X _ _ 39 [some (.inr (.inl a0)), none, some (.inr (.inl a1)), none, some (.inl a2)] [.inl (b2i (f_M_isZero a0))] _ _
        refine X_run 1 (i1 := cond (cn1 .eq (b2i (f_M_isZero a0))) 54 40) (L1 := [some (.inr (.inl a0)), none, some (.inr (.inl a1)), none, some (.inl a2)]) (st1 := []) rfl ?_
        refine X_brq (fun hb39 => ?_) (fun hb39 => ?_)
        · exact ct_M_two_54 a0 a1 a2
        · refine X_run 1 (i1 := 41) (L1 := [some (.inr (.inl a0)), none, some (.inr (.inl a1)), none, some (.inl a2)]) (st1 := [.inr (.inl a1)]) rfl ?_
          refine X_calls m_M_isZero (As := [.inr (.inl a1)]) (st := []) ok_M_isZero rfl rfl rfl (Nat.le_of_ble_eq_true rfl) (Nat.le_of_ble_eq_true rfl) (c_M_isZero (d := d + 3) a1) ?_
          rintro _ _ ⟨rfl, rfl⟩
          show X _ _ 42 [some (.inr (.inl a0)), none, some (.inr (.inl a1)), none, some (.inl a2)] [.inl (b2i (f_M_isZero a1))] _ _
          refine X_run 1 (i1 := cond (cn1 .eq (b2i (f_M_isZero a1))) 54 43) (L1 := [some (.inr (.inl a0)), none, some (.inr (.inl a1)), none, some (.inl a2)]) (st1 := []) rfl ?_
          refine X_brq (fun hb42 => ?_) (fun hb42 => ?_)
          · exact ct_M_two_54 a0 a1 a2
          · refine X_run 3 (i1 := cond (cn2 .ne a2 (5 : Int32)) 50 46) (L1 := [some (.inr (.inl a0)), none, some (.inr (.inl a1)), none, some (.inl a2)]) (st1 := []) rfl ?_
            refine X_brq (fun hb45 => ?_) (fun hb45 => ?_)
            · refine X_run 3 (i1 := 53) (L1 := [some (.inr (.inl a0)), none, some (.inr (.inl a1)), none, some (.inl a2)]) (st1 := [.inr (.inl (a0 ||| a1))]) rfl ?_
              exact X_lret rfl rfl ⟨rfl, rfl⟩
            · refine X_run 4 (i1 := 53) (L1 := [some (.inr (.inl a0)), none, some (.inr (.inl a1)), none, some (.inl a2)]) (st1 := [.inr (.inl (a0 &&& a1))]) rfl ?_
              exact X_lret rfl rfl ⟨rfl, rfl⟩
      · refine X_run 1 (i1 := 36) (L1 := [some (.inr (.inl a0)), none, some (.inr (.inl a1)), none, some (.inl a2)]) (st1 := [.inr (.inl (9221120237041090560 : Int64))]) rfl ?_
        exact X_lret rfl rfl ⟨rfl, rfl⟩
  refine X_itq (fun h => ?_) (fun h1_6 => ?_)
  · refine X_tsk rfl h rfl ?_
    refine X_run 1 (i1 := 30) (L1 := [some (.inr (.inl a0)), none, some (.inr (.inl a1)), none, some (.inl a2)]) (st1 := [.inr (.inl a0)]) rfl ?_
    refine X_calls m_M_isNo (As := [.inr (.inl a0)]) (st := []) ok_M_isNo rfl rfl rfl (Nat.le_of_ble_eq_true rfl) (Nat.le_of_ble_eq_true rfl) (c_M_isNo (d := d + 3) a0) ?_
    rintro _ _ ⟨rfl, rfl⟩
    show X _ _ 31 [some (.inr (.inl a0)), none, some (.inr (.inl a1)), none, some (.inl a2)] [.inl (b2i (f_M_isNo a0))] _ _
    refine X_run 1 (i1 := cond (cn1 .ne (b2i (f_M_isNo a0))) 35 32) (L1 := [some (.inr (.inl a0)), none, some (.inr (.inl a1)), none, some (.inl a2)]) (st1 := []) rfl ?_
    refine X_brq (fun hb31 => ?_) (fun hb31 => ?_)
    · refine X_run 1 (i1 := 36) (L1 := [some (.inr (.inl a0)), none, some (.inr (.inl a1)), none, some (.inl a2)]) (st1 := [.inr (.inl (9221120237041090560 : Int64))]) rfl ?_
      exact X_lret rfl rfl ⟨rfl, rfl⟩
    · refine X_run 1 (i1 := 33) (L1 := [some (.inr (.inl a0)), none, some (.inr (.inl a1)), none, some (.inl a2)]) (st1 := [.inr (.inl a1)]) rfl ?_
      refine X_calls m_M_isNo (As := [.inr (.inl a1)]) (st := []) ok_M_isNo rfl rfl rfl (Nat.le_of_ble_eq_true rfl) (Nat.le_of_ble_eq_true rfl) (c_M_isNo (d := d + 3) a1) ?_
      rintro _ _ ⟨rfl, rfl⟩
      show X _ _ 34 [some (.inr (.inl a0)), none, some (.inr (.inl a1)), none, some (.inl a2)] [.inl (b2i (f_M_isNo a1))] _ _
      refine X_run 1 (i1 := cond (cn1 .eq (b2i (f_M_isNo a1))) 37 35) (L1 := [some (.inr (.inl a0)), none, some (.inr (.inl a1)), none, some (.inl a2)]) (st1 := []) rfl ?_
      refine X_brq (fun hb34 => ?_) (fun hb34 => ?_)
      · refine X_run 1 (i1 := 38) (L1 := [some (.inr (.inl a0)), none, some (.inr (.inl a1)), none, some (.inl a2)]) (st1 := [.inr (.inl a0)]) rfl ?_
        refine X_calls m_M_isZero (As := [.inr (.inl a0)]) (st := []) ok_M_isZero rfl rfl rfl (Nat.le_of_ble_eq_true rfl) (Nat.le_of_ble_eq_true rfl) (c_M_isZero (d := d + 3) a0) ?_
        rintro _ _ ⟨rfl, rfl⟩
        show X _ _ 39 [some (.inr (.inl a0)), none, some (.inr (.inl a1)), none, some (.inl a2)] [.inl (b2i (f_M_isZero a0))] _ _
        refine X_run 1 (i1 := cond (cn1 .eq (b2i (f_M_isZero a0))) 54 40) (L1 := [some (.inr (.inl a0)), none, some (.inr (.inl a1)), none, some (.inl a2)]) (st1 := []) rfl ?_
        refine X_brq (fun hb39 => ?_) (fun hb39 => ?_)
        · exact ct_M_two_54 a0 a1 a2
        · refine X_run 1 (i1 := 41) (L1 := [some (.inr (.inl a0)), none, some (.inr (.inl a1)), none, some (.inl a2)]) (st1 := [.inr (.inl a1)]) rfl ?_
          refine X_calls m_M_isZero (As := [.inr (.inl a1)]) (st := []) ok_M_isZero rfl rfl rfl (Nat.le_of_ble_eq_true rfl) (Nat.le_of_ble_eq_true rfl) (c_M_isZero (d := d + 3) a1) ?_
          rintro _ _ ⟨rfl, rfl⟩
          show X _ _ 42 [some (.inr (.inl a0)), none, some (.inr (.inl a1)), none, some (.inl a2)] [.inl (b2i (f_M_isZero a1))] _ _
          refine X_run 1 (i1 := cond (cn1 .eq (b2i (f_M_isZero a1))) 54 43) (L1 := [some (.inr (.inl a0)), none, some (.inr (.inl a1)), none, some (.inl a2)]) (st1 := []) rfl ?_
          refine X_brq (fun hb42 => ?_) (fun hb42 => ?_)
          · exact ct_M_two_54 a0 a1 a2
          · refine X_run 3 (i1 := cond (cn2 .ne a2 (5 : Int32)) 50 46) (L1 := [some (.inr (.inl a0)), none, some (.inr (.inl a1)), none, some (.inl a2)]) (st1 := []) rfl ?_
            refine X_brq (fun hb45 => ?_) (fun hb45 => ?_)
            · refine X_run 3 (i1 := 53) (L1 := [some (.inr (.inl a0)), none, some (.inr (.inl a1)), none, some (.inl a2)]) (st1 := [.inr (.inl (a0 ||| a1))]) rfl ?_
              exact X_lret rfl rfl ⟨rfl, rfl⟩
            · refine X_run 4 (i1 := 53) (L1 := [some (.inr (.inl a0)), none, some (.inr (.inl a1)), none, some (.inl a2)]) (st1 := [.inr (.inl (a0 &&& a1))]) rfl ?_
              exact X_lret rfl rfl ⟨rfl, rfl⟩
      · refine X_run 1 (i1 := 36) (L1 := [some (.inr (.inl a0)), none, some (.inr (.inl a1)), none, some (.inl a2)]) (st1 := [.inr (.inl (9221120237041090560 : Int64))]) rfl ?_
        exact X_lret rfl rfl ⟨rfl, rfl⟩
  refine X_tsd rfl ((sw_out (0) 7 (by decide) (by decide) (fun j hj => by
    match j, hj with
    | 0, _ => exact h1_0
    | 1, _ => exact h1_1
    | 2, _ => exact h1_2
    | 3, _ => exact h1_3
    | 4, _ => exact h1_4
    | 5, _ => exact h1_5
    | 6, _ => exact h1_6)).imp id (fun h => by omega)) ?_
  refine X_run 1 (i1 := 73) (L1 := [some (.inr (.inl a0)), none, some (.inr (.inl a1)), none, some (.inl a2)]) (st1 := [.inr (.inl a0)]) rfl ?_
  refine X_calls m_M_isNo (As := [.inr (.inl a0)]) (st := []) ok_M_isNo rfl rfl rfl (Nat.le_of_ble_eq_true rfl) (Nat.le_of_ble_eq_true rfl) (c_M_isNo (d := d + 3) a0) ?_
  rintro _ _ ⟨rfl, rfl⟩
  show X _ _ 74 [some (.inr (.inl a0)), none, some (.inr (.inl a1)), none, some (.inl a2)] [.inl (b2i (f_M_isNo a0))] _ _
  refine X_run 1 (i1 := cond (cn1 .eq (b2i (f_M_isNo a0))) 77 75) (L1 := [some (.inr (.inl a0)), none, some (.inr (.inl a1)), none, some (.inl a2)]) (st1 := []) rfl ?_
  refine X_brq (fun hb74 => ?_) (fun hb74 => ?_)
  · refine X_run 4 (i1 := 81) (L1 := [some (.inr (.inl a0)), none, some (.inr (.inl a1)), none, some (.inl a2)]) (st1 := [.inr (.inl a1), .inr (.inl (a0 &&& (9223372036854775807 : Int64)))]) rfl ?_
    refine X_calls m_M_isNo (As := [.inr (.inl a1)]) (st := [.inr (.inl (a0 &&& (9223372036854775807 : Int64)))]) ok_M_isNo rfl rfl rfl (Nat.le_of_ble_eq_true rfl) (Nat.le_of_ble_eq_true rfl) (c_M_isNo (d := d + 3) a1) ?_
    rintro _ _ ⟨rfl, rfl⟩
    show X _ _ 82 [some (.inr (.inl a0)), none, some (.inr (.inl a1)), none, some (.inl a2)] [.inl (b2i (f_M_isNo a1)), .inr (.inl (a0 &&& (9223372036854775807 : Int64)))] _ _
    refine X_run 1 (i1 := cond (cn1 .eq (b2i (f_M_isNo a1))) 85 83) (L1 := [some (.inr (.inl a0)), none, some (.inr (.inl a1)), none, some (.inl a2)]) (st1 := [.inr (.inl (a0 &&& (9223372036854775807 : Int64)))]) rfl ?_
    refine X_brq (fun hb82 => ?_) (fun hb82 => ?_)
    · refine X_run 4 (i1 := 89) (L1 := [some (.inr (.inl a0)), none, some (.inr (.inl a1)), none, some (.inl a2)]) (st1 := [.inr (.inl ((a0 &&& (9223372036854775807 : Int64)) ||| (a1 &&& (-9223372036854775808 : Int64))))]) rfl ?_
      exact X_lret rfl rfl ⟨rfl, rfl⟩
    · refine X_run 3 (i1 := 89) (L1 := [some (.inr (.inl a0)), none, some (.inr (.inl a1)), none, some (.inl a2)]) (st1 := [.inr (.inl ((a0 &&& (9223372036854775807 : Int64)) ||| (0 : Int64)))]) rfl ?_
      exact X_lret rfl rfl ⟨rfl, rfl⟩
  · refine X_run 2 (i1 := 89) (L1 := [some (.inr (.inl a0)), none, some (.inr (.inl a1)), none, some (.inl a2)]) (st1 := [.inr (.inl a0)]) rfl ?_
    exact X_lret rfl rfl ⟨rfl, rfl⟩
def f_M_one (a0 : Int64) (a1 : Int32) : Int64 := (cond (cn1 .eq (b2i (f_M_isNo a0))) (if a1 = (0 : Int32) then (a0 &&& (9223372036854775807 : Int64)) else (if a1 = (1 : Int32) then (f_M_even a0 a1) else (if a1 = (2 : Int32) then (f_M_even a0 a1) else (if a1 = (3 : Int32) then (f_M_even a0 a1) else (if a1 = (4 : Int32) then (cond (cn1 .eq (b2i (f_M_isZero a0))) ((f_M_realOf (1 : Int64)) ||| (a0 &&& (-9223372036854775808 : Int64))) a0) else (if a1 = (5 : Int32) then (f_M_root a0) else (if a1 = (6 : Int32) then (f_M_step a0) else (if a1 = (7 : Int32) then (f_M_above a0) else (if a1 = (8 : Int32) then (a0 ^^^ (-9223372036854775808 : Int64)) else (f_M_wide (f_M_narrow a0))))))))))) a0)
theorem c_M_one {d : Nat} {P : AP} (a0 : Int64) (a1 : Int32) : X m_M_one (d + 4) 0 (entL 3 [.inr (.inl a0), .inl a1]) [] P (qL P (f_M_one a0 a1)) := by
  unfold f_M_one
  refine X_run 1 (i1 := 1) (L1 := [some (.inr (.inl a0)), none, some (.inl a1)]) (st1 := [.inr (.inl a0)]) rfl ?_
  refine X_calls m_M_isNo (As := [.inr (.inl a0)]) (st := []) ok_M_isNo rfl rfl rfl (Nat.le_of_ble_eq_true rfl) (Nat.le_of_ble_eq_true rfl) (c_M_isNo (d := d + 3) a0) ?_
  rintro _ _ ⟨rfl, rfl⟩
  show X _ _ 2 [some (.inr (.inl a0)), none, some (.inl a1)] [.inl (b2i (f_M_isNo a0))] _ _
  refine X_run 1 (i1 := cond (cn1 .eq (b2i (f_M_isNo a0))) 5 3) (L1 := [some (.inr (.inl a0)), none, some (.inl a1)]) (st1 := []) rfl ?_
  refine X_brq (fun hb2 => ?_) (fun hb2 => ?_)
  · refine X_run 1 (i1 := 6) (L1 := [some (.inr (.inl a0)), none, some (.inl a1)]) (st1 := [.inl a1]) rfl ?_
    refine X_itq (fun h => ?_) (fun h6_0 => ?_)
    · refine X_tsk rfl h rfl ?_
      refine X_run 3 (i1 := 10) (L1 := [some (.inr (.inl a0)), none, some (.inl a1)]) (st1 := [.inr (.inl (a0 &&& (9223372036854775807 : Int64)))]) rfl ?_
      exact X_lret rfl rfl ⟨rfl, rfl⟩
    refine X_itq (fun h => ?_) (fun h6_1 => ?_)
    · refine X_tsk rfl h rfl ?_
      refine X_run 2 (i1 := 13) (L1 := [some (.inr (.inl a0)), none, some (.inl a1)]) (st1 := [.inl a1, .inr (.inl a0)]) rfl ?_
      refine X_calls m_M_even (As := [.inr (.inl a0), .inl a1]) (st := []) ok_M_even rfl rfl rfl (Nat.le_of_ble_eq_true rfl) (Nat.le_of_ble_eq_true rfl) (c_M_even (d := d + 1) a0 a1) ?_
      rintro _ _ ⟨rfl, rfl⟩
      show X _ _ 14 [some (.inr (.inl a0)), none, some (.inl a1)] [.inr (.inl (f_M_even a0 a1))] _ _
      exact X_lret rfl rfl ⟨rfl, rfl⟩
    refine X_itq (fun h => ?_) (fun h6_2 => ?_)
    · refine X_tsk rfl h rfl ?_
      refine X_run 2 (i1 := 13) (L1 := [some (.inr (.inl a0)), none, some (.inl a1)]) (st1 := [.inl a1, .inr (.inl a0)]) rfl ?_
      refine X_calls m_M_even (As := [.inr (.inl a0), .inl a1]) (st := []) ok_M_even rfl rfl rfl (Nat.le_of_ble_eq_true rfl) (Nat.le_of_ble_eq_true rfl) (c_M_even (d := d + 1) a0 a1) ?_
      rintro _ _ ⟨rfl, rfl⟩
      show X _ _ 14 [some (.inr (.inl a0)), none, some (.inl a1)] [.inr (.inl (f_M_even a0 a1))] _ _
      exact X_lret rfl rfl ⟨rfl, rfl⟩
    refine X_itq (fun h => ?_) (fun h6_3 => ?_)
    · refine X_tsk rfl h rfl ?_
      refine X_run 2 (i1 := 13) (L1 := [some (.inr (.inl a0)), none, some (.inl a1)]) (st1 := [.inl a1, .inr (.inl a0)]) rfl ?_
      refine X_calls m_M_even (As := [.inr (.inl a0), .inl a1]) (st := []) ok_M_even rfl rfl rfl (Nat.le_of_ble_eq_true rfl) (Nat.le_of_ble_eq_true rfl) (c_M_even (d := d + 1) a0 a1) ?_
      rintro _ _ ⟨rfl, rfl⟩
      show X _ _ 14 [some (.inr (.inl a0)), none, some (.inl a1)] [.inr (.inl (f_M_even a0 a1))] _ _
      exact X_lret rfl rfl ⟨rfl, rfl⟩
    refine X_itq (fun h => ?_) (fun h6_4 => ?_)
    · refine X_tsk rfl h rfl ?_
      refine X_run 1 (i1 := 16) (L1 := [some (.inr (.inl a0)), none, some (.inl a1)]) (st1 := [.inr (.inl a0)]) rfl ?_
      refine X_calls m_M_isZero (As := [.inr (.inl a0)]) (st := []) ok_M_isZero rfl rfl rfl (Nat.le_of_ble_eq_true rfl) (Nat.le_of_ble_eq_true rfl) (c_M_isZero (d := d + 3) a0) ?_
      rintro _ _ ⟨rfl, rfl⟩
      show X _ _ 17 [some (.inr (.inl a0)), none, some (.inl a1)] [.inl (b2i (f_M_isZero a0))] _ _
      refine X_run 1 (i1 := cond (cn1 .eq (b2i (f_M_isZero a0))) 20 18) (L1 := [some (.inr (.inl a0)), none, some (.inl a1)]) (st1 := []) rfl ?_
      refine X_brq (fun hb17 => ?_) (fun hb17 => ?_)
      · refine X_run 1 (i1 := 21) (L1 := [some (.inr (.inl a0)), none, some (.inl a1)]) (st1 := [.inr (.inl (1 : Int64))]) rfl ?_
        refine X_calls m_M_realOf (As := [.inr (.inl (1 : Int64))]) (st := []) ok_M_realOf rfl rfl rfl (Nat.le_of_ble_eq_true rfl) (Nat.le_of_ble_eq_true rfl) (c_M_realOf (d := d) (1 : Int64)) ?_
        rintro _ _ ⟨rfl, rfl⟩
        show X _ _ 22 [some (.inr (.inl a0)), none, some (.inl a1)] [.inr (.inl (f_M_realOf (1 : Int64)))] _ _
        refine X_run 4 (i1 := 26) (L1 := [some (.inr (.inl a0)), none, some (.inl a1)]) (st1 := [.inr (.inl ((f_M_realOf (1 : Int64)) ||| (a0 &&& (-9223372036854775808 : Int64))))]) rfl ?_
        exact X_lret rfl rfl ⟨rfl, rfl⟩
      · refine X_run 2 (i1 := 26) (L1 := [some (.inr (.inl a0)), none, some (.inl a1)]) (st1 := [.inr (.inl a0)]) rfl ?_
        exact X_lret rfl rfl ⟨rfl, rfl⟩
    refine X_itq (fun h => ?_) (fun h6_5 => ?_)
    · refine X_tsk rfl h rfl ?_
      refine X_run 1 (i1 := 28) (L1 := [some (.inr (.inl a0)), none, some (.inl a1)]) (st1 := [.inr (.inl a0)]) rfl ?_
      refine X_calls m_M_root (As := [.inr (.inl a0)]) (st := []) ok_M_root rfl rfl rfl (Nat.le_of_ble_eq_true rfl) (Nat.le_of_ble_eq_true rfl) (c_M_root (d := d) a0) ?_
      rintro _ _ ⟨rfl, rfl⟩
      show X _ _ 29 [some (.inr (.inl a0)), none, some (.inl a1)] [.inr (.inl (f_M_root a0))] _ _
      exact X_lret rfl rfl ⟨rfl, rfl⟩
    refine X_itq (fun h => ?_) (fun h6_6 => ?_)
    · refine X_tsk rfl h rfl ?_
      refine X_run 1 (i1 := 31) (L1 := [some (.inr (.inl a0)), none, some (.inl a1)]) (st1 := [.inr (.inl a0)]) rfl ?_
      refine X_calls m_M_step (As := [.inr (.inl a0)]) (st := []) ok_M_step rfl rfl rfl (Nat.le_of_ble_eq_true rfl) (Nat.le_of_ble_eq_true rfl) (c_M_step (d := d + 1) a0) ?_
      rintro _ _ ⟨rfl, rfl⟩
      show X _ _ 32 [some (.inr (.inl a0)), none, some (.inl a1)] [.inr (.inl (f_M_step a0))] _ _
      exact X_lret rfl rfl ⟨rfl, rfl⟩
    refine X_itq (fun h => ?_) (fun h6_7 => ?_)
    · refine X_tsk rfl h rfl ?_
      refine X_run 1 (i1 := 34) (L1 := [some (.inr (.inl a0)), none, some (.inl a1)]) (st1 := [.inr (.inl a0)]) rfl ?_
      refine X_calls m_M_above (As := [.inr (.inl a0)]) (st := []) ok_M_above rfl rfl rfl (Nat.le_of_ble_eq_true rfl) (Nat.le_of_ble_eq_true rfl) (c_M_above (d := d + 2) a0) ?_
      rintro _ _ ⟨rfl, rfl⟩
      show X _ _ 35 [some (.inr (.inl a0)), none, some (.inl a1)] [.inr (.inl (f_M_above a0))] _ _
      exact X_lret rfl rfl ⟨rfl, rfl⟩
    refine X_itq (fun h => ?_) (fun h6_8 => ?_)
    · refine X_tsk rfl h rfl ?_
      refine X_run 3 (i1 := 39) (L1 := [some (.inr (.inl a0)), none, some (.inl a1)]) (st1 := [.inr (.inl (a0 ^^^ (-9223372036854775808 : Int64)))]) rfl ?_
      exact X_lret rfl rfl ⟨rfl, rfl⟩
    refine X_tsd rfl ((sw_out (0) 9 (by decide) (by decide) (fun j hj => by
      match j, hj with
      | 0, _ => exact h6_0
      | 1, _ => exact h6_1
      | 2, _ => exact h6_2
      | 3, _ => exact h6_3
      | 4, _ => exact h6_4
      | 5, _ => exact h6_5
      | 6, _ => exact h6_6
      | 7, _ => exact h6_7
      | 8, _ => exact h6_8)).imp id (fun h => by omega)) ?_
    refine X_run 1 (i1 := 41) (L1 := [some (.inr (.inl a0)), none, some (.inl a1)]) (st1 := [.inr (.inl a0)]) rfl ?_
    refine X_calls m_M_narrow (As := [.inr (.inl a0)]) (st := []) ok_M_narrow rfl rfl rfl (Nat.le_of_ble_eq_true rfl) (Nat.le_of_ble_eq_true rfl) (c_M_narrow (d := d + 1) a0) ?_
    rintro _ _ ⟨rfl, rfl⟩
    show X _ _ 42 [some (.inr (.inl a0)), none, some (.inl a1)] [.inl (f_M_narrow a0)] _ _
    refine X_calls m_M_wide (As := [.inl (f_M_narrow a0)]) (st := []) ok_M_wide rfl rfl rfl (Nat.le_of_ble_eq_true rfl) (Nat.le_of_ble_eq_true rfl) (c_M_wide (d := d) (f_M_narrow a0)) ?_
    rintro _ _ ⟨rfl, rfl⟩
    show X _ _ 43 [some (.inr (.inl a0)), none, some (.inl a1)] [.inr (.inl (f_M_wide (f_M_narrow a0)))] _ _
    exact X_lret rfl rfl ⟨rfl, rfl⟩
  · refine X_run 1 (i1 := 4) (L1 := [some (.inr (.inl a0)), none, some (.inl a1)]) (st1 := [.inr (.inl a0)]) rfl ?_
    exact X_lret rfl rfl ⟨rfl, rfl⟩
