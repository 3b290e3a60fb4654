def f_Op_operand (s : St) (a0 : Int32) : Int32 := (cond (cn1 .lt ((sI s 8 5) + a0)) (0 : Int32) (cond (cn2 .ge ((sI s 8 5) + a0) (3200 : Int32)) (0 : Int32) ((sA s 6 (Int32.toNatClampNeg ((sI s 8 5) + a0))) &&& (255 : Int32))))
def w_Op_operand (s : St) (a0 : Int32) : Prop := ((cn1 .lt ((sI s 8 5) + a0)) = true → True) ∧ ((cn1 .lt ((sI s 8 5) + a0)) = false → ((cn2 .ge ((sI s 8 5) + a0) (3200 : Int32)) = true → True) ∧ ((cn2 .ge ((sI s 8 5) + a0) (3200 : Int32)) = false → (vp_in ((sI s 8 5) + a0) 3200 ∧ True)))
theorem c_Op_operand {d : Nat} (s : St) (a0 : Int32) (hw : w_Op_operand s a0) : X m_Op_operand (d) 0 (entL 3 [.inr (.inr (some 8)), .inl a0]) [] (hp s) (qI (hp s) (f_Op_operand s a0)) := by
  unfold f_Op_operand
  unfold w_Op_operand at hw
  refine X_run 1 (i1 := 1) (L1 := [some (.inr (.inr (some 8))), some (.inl a0), none]) (st1 := [.inr (.inr (some 8))]) rfl ?_
  refine X_gF (v := .inl (sI s 8 5)) rfl rfl rfl rfl ?_
  refine X_run 5 (i1 := cond (cn1 .lt ((sI s 8 5) + a0)) 19 7) (L1 := [some (.inr (.inr (some 8))), some (.inl a0), some (.inl ((sI s 8 5) + a0))]) (st1 := []) rfl ?_
  refine X_brq (fun hb => ?_) (fun hb => ?_)
  · skip
    refine X_run 1 (i1 := 20) (L1 := [some (.inr (.inr (some 8))), some (.inl a0), some (.inl ((sI s 8 5) + a0))]) (st1 := [.inl (0 : Int32)]) rfl ?_
    exact X_iret rfl rfl qI_i
  · have hw := hw.2 hb
    refine X_run 2 (i1 := 9) (L1 := [some (.inr (.inr (some 8))), some (.inl a0), some (.inl ((sI s 8 5) + a0))]) (st1 := [.inr (.inr (some 8)), .inl ((sI s 8 5) + a0)]) rfl ?_
    refine X_gF (v := .inr (.inr (some 6))) rfl rfl rfl rfl ?_
    refine X_lenI rfl rfl ?_
    show X _ _ 11 [some (.inr (.inr (some 8))), some (.inl a0), some (.inl ((sI s 8 5) + a0))] [.inl (3200 : Int32), .inl ((sI s 8 5) + a0)] (hp s) _
    refine X_run 1 (i1 := cond (cn2 .ge ((sI s 8 5) + a0) (3200 : Int32)) 19 12) (L1 := [some (.inr (.inr (some 8))), some (.inl a0), some (.inl ((sI s 8 5) + a0))]) (st1 := []) rfl ?_
    refine X_brq (fun hb => ?_) (fun hb => ?_)
    · skip
      refine X_run 1 (i1 := 20) (L1 := [some (.inr (.inr (some 8))), some (.inl a0), some (.inl ((sI s 8 5) + a0))]) (st1 := [.inl (0 : Int32)]) rfl ?_
      exact X_iret rfl rfl qI_i
    · have hw := hw.2 hb
      refine X_run 1 (i1 := 13) (L1 := [some (.inr (.inr (some 8))), some (.inl a0), some (.inl ((sI s 8 5) + a0))]) (st1 := [.inr (.inr (some 8))]) rfl ?_
      refine X_gF (v := .inr (.inr (some 6))) rfl rfl rfl rfl ?_
      refine X_run 1 (i1 := 15) (L1 := [some (.inr (.inr (some 8))), some (.inl a0), some (.inl ((sI s 8 5) + a0))]) (st1 := [.inl ((sI s 8 5) + a0), .inr (.inr (some 6))]) rfl ?_
      obtain ⟨hin, hw⟩ := hw
      refine X_aY rfl rfl hin ?_
      show X _ _ 16 [some (.inr (.inr (some 8))), some (.inl a0), some (.inl ((sI s 8 5) + a0))] [.inl (sA s 6 (Int32.toNatClampNeg ((sI s 8 5) + a0)))] (hp s) _
      refine X_run 3 (i1 := 20) (L1 := [some (.inr (.inr (some 8))), some (.inl a0), some (.inl ((sI s 8 5) + a0))]) (st1 := [.inl ((sA s 6 (Int32.toNatClampNeg ((sI s 8 5) + a0))) &&& (255 : Int32))]) rfl ?_
      exact X_iret rfl rfl qI_i
def t_Op_bytes_4 (fu : Nat) : Nat → St → Int32 → Int32 → Int64 → Int32 → Int64
  | 0, _, _, _, _, _ => 0
  | n + 1, s, v1, v2, v3, v5 => (cond (cn2 .ge v5 v2) v3 (t_Op_bytes_4 fu n s v1 v2 ((v3 <<< (Int32.toInt64 (8 : Int32) &&& 63)) ||| (Int32.toInt64 (f_Op_operand s (v1 + v5)))) (v5 + Int32.ofInt (1))))
def w_Op_bytes_4 (fu : Nat) : Nat → St → Int32 → Int32 → Int64 → Int32 → Prop
  | 0, _, _, _, _, _ => False
  | n + 1, s, v1, v2, v3, v5 => ((cn2 .ge v5 v2) = true → True) ∧ ((cn2 .ge v5 v2) = false → (w_Op_operand s (v1 + v5) ∧ (w_Op_bytes_4 fu n s v1 v2 ((v3 <<< (Int32.toInt64 (8 : Int32) &&& 63)) ||| (Int32.toInt64 (f_Op_operand s (v1 + v5)))) (v5 + Int32.ofInt (1)))))
theorem ct_Op_bytes_4 {d : Nat} (fu : Nat) : ∀ (n : Nat) (s : St) (v1 : Int32) (v2 : Int32) (v3 : Int64) (v5 : Int32), w_Op_bytes_4 fu n s v1 v2 v3 v5 → X m_Op_bytes (d + 1) 4 [some (.inr (.inr (some 8))), some (.inl v1), some (.inl v2), some (.inr (.inl v3)), none, some (.inl v5)] [] (hp s) (qL (hp s) (t_Op_bytes_4 fu n s v1 v2 v3 v5))
  | 0, s, v1, v2, v3, v5, hw => hw.elim
  | n + 1, s, v1, v2, v3, v5, hw => by
    have ih := @ct_Op_bytes_4 d fu n
    unfold t_Op_bytes_4
    unfold w_Op_bytes_4 at hw
    refine X_run 3 (i1 := cond (cn2 .ge v5 v2) 20 7) (L1 := [some (.inr (.inr (some 8))), some (.inl v1), some (.inl v2), some (.inr (.inl v3)), none, some (.inl v5)]) (st1 := []) rfl ?_
    refine X_brq (fun hb => ?_) (fun hb => ?_)
    · skip
      refine X_run 1 (i1 := 21) (L1 := [some (.inr (.inr (some 8))), some (.inl v1), some (.inl v2), some (.inr (.inl v3)), none, some (.inl v5)]) (st1 := [.inr (.inl v3)]) rfl ?_
      exact X_lret rfl rfl qL_i
    · have hw := hw.2 hb
      refine X_run 7 (i1 := 14) (L1 := [some (.inr (.inr (some 8))), some (.inl v1), some (.inl v2), some (.inr (.inl v3)), none, some (.inl v5)]) (st1 := [.inl (v1 + v5), .inr (.inr (some 8)), .inr (.inl (v3 <<< (Int32.toInt64 (8 : Int32) &&& 63)))]) rfl ?_
      obtain ⟨hc, hw⟩ := hw
      refine X_callv m_Op_operand (As := [.inl (v1 + v5)]) (st := [.inr (.inl (v3 <<< (Int32.toInt64 (8 : Int32) &&& 63)))]) ok_Op_operand rfl rfl rfl (hp_obj rfl) rfl (Nat.le_of_ble_eq_true rfl) (Nat.le_of_ble_eq_true rfl) (c_Op_operand (d := d) s (v1 + v5) hc) ?_
      rintro _ _ ⟨rfl, rfl⟩
      show X _ _ 15 [some (.inr (.inr (some 8))), some (.inl v1), some (.inl v2), some (.inr (.inl v3)), none, some (.inl v5)] [.inl (f_Op_operand s (v1 + v5)), .inr (.inl (v3 <<< (Int32.toInt64 (8 : Int32) &&& 63)))] (hp s) _
      refine X_run 5 (i1 := 4) (L1 := [some (.inr (.inr (some 8))), some (.inl v1), some (.inl v2), some (.inr (.inl ((v3 <<< (Int32.toInt64 (8 : Int32) &&& 63)) ||| (Int32.toInt64 (f_Op_operand s (v1 + v5)))))), none, some (.inl (v5 + Int32.ofInt (1)))]) (st1 := []) rfl ?_
      exact ih s v1 v2 ((v3 <<< (Int32.toInt64 (8 : Int32) &&& 63)) ||| (Int32.toInt64 (f_Op_operand s (v1 + v5)))) (v5 + Int32.ofInt (1)) hw
def f_Op_bytes (fu : Nat) (s : St) (a0 : Int32) (a1 : Int32) : Int64 := (t_Op_bytes_4 fu fu s a0 a1 (0 : Int64) (0 : Int32))
def w_Op_bytes (fu : Nat) (s : St) (a0 : Int32) (a1 : Int32) : Prop := (w_Op_bytes_4 fu fu s a0 a1 (0 : Int64) (0 : Int32))
theorem c_Op_bytes {d : Nat} (fu : Nat) (s : St) (a0 : Int32) (a1 : Int32) (hw : w_Op_bytes fu s a0 a1) : X m_Op_bytes (d + 1) 0 (entL 6 [.inr (.inr (some 8)), .inl a0, .inl a1]) [] (hp s) (qL (hp s) (f_Op_bytes fu s a0 a1)) := by
  unfold f_Op_bytes
  unfold w_Op_bytes at hw
  refine X_run 4 (i1 := 4) (L1 := [some (.inr (.inr (some 8))), some (.inl a0), some (.inl a1), some (.inr (.inl (0 : Int64))), none, some (.inl (0 : Int32))]) (st1 := []) rfl ?_
  exact ct_Op_bytes_4 fu fu s a0 a1 (0 : Int64) (0 : Int32) hw
def f_Op_numberAt (s : St) (a0 : Int32) : Int32 := (sA s 9 (Int32.toNatClampNeg ((f_Op_operand s a0) &&& (7 : Int32))))
def w_Op_numberAt (s : St) (a0 : Int32) : Prop := (w_Op_operand s a0 ∧ (vp_in ((f_Op_operand s a0) &&& (7 : Int32)) 8 ∧ True))
theorem c_Op_numberAt {d : Nat} (s : St) (a0 : Int32) (hw : w_Op_numberAt s a0) : X m_Op_numberAt (d + 1) 0 (entL 2 [.inr (.inr (some 8)), .inl a0]) [] (hp s) (qI (hp s) (f_Op_numberAt s a0)) := by
  unfold f_Op_numberAt
  unfold w_Op_numberAt at hw
  refine X_run 1 (i1 := 1) (L1 := [some (.inr (.inr (some 8))), some (.inl a0)]) (st1 := [.inr (.inr (some 8))]) rfl ?_
  refine X_gF (v := .inr (.inr (some 9))) rfl rfl rfl rfl ?_
  refine X_run 2 (i1 := 4) (L1 := [some (.inr (.inr (some 8))), some (.inl a0)]) (st1 := [.inl a0, .inr (.inr (some 8)), .inr (.inr (some 9))]) rfl ?_
  obtain ⟨hc, hw⟩ := hw
  refine X_callv m_Op_operand (As := [.inl a0]) (st := [.inr (.inr (some 9))]) ok_Op_operand rfl rfl rfl (hp_obj rfl) rfl (Nat.le_of_ble_eq_true rfl) (Nat.le_of_ble_eq_true rfl) (c_Op_operand (d := d) s a0 hc) ?_
  rintro _ _ ⟨rfl, rfl⟩
  show X _ _ 5 [some (.inr (.inr (some 8))), some (.inl a0)] [.inl (f_Op_operand s a0), .inr (.inr (some 9))] (hp s) _
  refine X_run 2 (i1 := 7) (L1 := [some (.inr (.inr (some 8))), some (.inl a0)]) (st1 := [.inl ((f_Op_operand s a0) &&& (7 : Int32)), .inr (.inr (some 9))]) rfl ?_
  obtain ⟨hin, hw⟩ := hw
  refine X_aI rfl rfl hin ?_
  show X _ _ 8 [some (.inr (.inr (some 8))), some (.inl a0)] [.inl (sA s 9 (Int32.toNatClampNeg ((f_Op_operand s a0) &&& (7 : Int32))))] (hp s) _
  exact X_iret rfl rfl qI_i
def f_Op_setNumber (s : St) (a0 : Int32) (a1 : Int32) : St := (pA s 9 (upd (sA s 9) (Int32.toNatClampNeg ((f_Op_operand s a0) &&& (7 : Int32))) a1))
def w_Op_setNumber (s : St) (a0 : Int32) (a1 : Int32) : Prop := (w_Op_operand s a0 ∧ (vp_in ((f_Op_operand s a0) &&& (7 : Int32)) 8 ∧ True))
theorem c_Op_setNumber {d : Nat} (s : St) (a0 : Int32) (a1 : Int32) (hw : w_Op_setNumber s a0 a1) : X m_Op_setNumber (d + 1) 0 (entL 3 [.inr (.inr (some 8)), .inl a0, .inl a1]) [] (hp s) (qVs (f_Op_setNumber s a0 a1)) := by
  unfold f_Op_setNumber
  unfold w_Op_setNumber at hw
  refine X_run 1 (i1 := 1) (L1 := [some (.inr (.inr (some 8))), some (.inl a0), some (.inl a1)]) (st1 := [.inr (.inr (some 8))]) rfl ?_
  refine X_gF (v := .inr (.inr (some 9))) rfl rfl rfl rfl ?_
  refine X_run 2 (i1 := 4) (L1 := [some (.inr (.inr (some 8))), some (.inl a0), some (.inl a1)]) (st1 := [.inl a0, .inr (.inr (some 8)), .inr (.inr (some 9))]) rfl ?_
  obtain ⟨hc, hw⟩ := hw
  refine X_callv m_Op_operand (As := [.inl a0]) (st := [.inr (.inr (some 9))]) ok_Op_operand rfl rfl rfl (hp_obj rfl) rfl (Nat.le_of_ble_eq_true rfl) (Nat.le_of_ble_eq_true rfl) (c_Op_operand (d := d) s a0 hc) ?_
  rintro _ _ ⟨rfl, rfl⟩
  show X _ _ 5 [some (.inr (.inr (some 8))), some (.inl a0), some (.inl a1)] [.inl (f_Op_operand s a0), .inr (.inr (some 9))] (hp s) _
  refine X_run 3 (i1 := 8) (L1 := [some (.inr (.inr (some 8))), some (.inl a0), some (.inl a1)]) (st1 := [.inl a1, .inl ((f_Op_operand s a0) &&& (7 : Int32)), .inr (.inr (some 9))]) rfl ?_
  obtain ⟨hin, hw⟩ := hw
  refine X_sI rfl rfl hin ?_
  show X _ _ 9 [some (.inr (.inr (some 8))), some (.inl a0), some (.inl a1)] [] (hp (pA s 9 (upd (sA s 9) (Int32.toNatClampNeg ((f_Op_operand s a0) &&& (7 : Int32))) a1))) _
  exact X_ret rfl rfl qVs_i
def f_Op_realAt (s : St) (a0 : Int32) : Int64 := (sB s 10 (Int32.toNatClampNeg ((f_Op_operand s a0) &&& (3 : Int32))))
def w_Op_realAt (s : St) (a0 : Int32) : Prop := (w_Op_operand s a0 ∧ (vp_in ((f_Op_operand s a0) &&& (3 : Int32)) 4 ∧ True))
theorem c_Op_realAt {d : Nat} (s : St) (a0 : Int32) (hw : w_Op_realAt s a0) : X m_Op_realAt (d + 1) 0 (entL 2 [.inr (.inr (some 8)), .inl a0]) [] (hp s) (qL (hp s) (f_Op_realAt s a0)) := by
  unfold f_Op_realAt
  unfold w_Op_realAt at hw
  refine X_run 1 (i1 := 1) (L1 := [some (.inr (.inr (some 8))), some (.inl a0)]) (st1 := [.inr (.inr (some 8))]) rfl ?_
  refine X_gF (v := .inr (.inr (some 10))) rfl rfl rfl rfl ?_
  refine X_run 2 (i1 := 4) (L1 := [some (.inr (.inr (some 8))), some (.inl a0)]) (st1 := [.inl a0, .inr (.inr (some 8)), .inr (.inr (some 10))]) rfl ?_
  obtain ⟨hc, hw⟩ := hw
  refine X_callv m_Op_operand (As := [.inl a0]) (st := [.inr (.inr (some 10))]) ok_Op_operand rfl rfl rfl (hp_obj rfl) rfl (Nat.le_of_ble_eq_true rfl) (Nat.le_of_ble_eq_true rfl) (c_Op_operand (d := d) s a0 hc) ?_
  rintro _ _ ⟨rfl, rfl⟩
  show X _ _ 5 [some (.inr (.inr (some 8))), some (.inl a0)] [.inl (f_Op_operand s a0), .inr (.inr (some 10))] (hp s) _
  refine X_run 2 (i1 := 7) (L1 := [some (.inr (.inr (some 8))), some (.inl a0)]) (st1 := [.inl ((f_Op_operand s a0) &&& (3 : Int32)), .inr (.inr (some 10))]) rfl ?_
  obtain ⟨hin, hw⟩ := hw
  refine X_aL rfl rfl hin ?_
  show X _ _ 8 [some (.inr (.inr (some 8))), some (.inl a0)] [.inr (.inl (sB s 10 (Int32.toNatClampNeg ((f_Op_operand s a0) &&& (3 : Int32)))))] (hp s) _
  exact X_lret rfl rfl qL_i
def f_Op_setReal (s : St) (a0 : Int32) (a1 : Int64) : St := (pB s 10 (vp_updL (sB s 10) (Int32.toNatClampNeg ((f_Op_operand s a0) &&& (3 : Int32))) a1))
def w_Op_setReal (s : St) (a0 : Int32) (a1 : Int64) : Prop := (w_Op_operand s a0 ∧ (vp_in ((f_Op_operand s a0) &&& (3 : Int32)) 4 ∧ True))
theorem c_Op_setReal {d : Nat} (s : St) (a0 : Int32) (a1 : Int64) (hw : w_Op_setReal s a0 a1) : X m_Op_setReal (d + 1) 0 (entL 4 [.inr (.inr (some 8)), .inl a0, .inr (.inl a1)]) [] (hp s) (qVs (f_Op_setReal s a0 a1)) := by
  unfold f_Op_setReal
  unfold w_Op_setReal at hw
  refine X_run 1 (i1 := 1) (L1 := [some (.inr (.inr (some 8))), some (.inl a0), some (.inr (.inl a1)), none]) (st1 := [.inr (.inr (some 8))]) rfl ?_
  refine X_gF (v := .inr (.inr (some 10))) rfl rfl rfl rfl ?_
  refine X_run 2 (i1 := 4) (L1 := [some (.inr (.inr (some 8))), some (.inl a0), some (.inr (.inl a1)), none]) (st1 := [.inl a0, .inr (.inr (some 8)), .inr (.inr (some 10))]) rfl ?_
  obtain ⟨hc, hw⟩ := hw
  refine X_callv m_Op_operand (As := [.inl a0]) (st := [.inr (.inr (some 10))]) ok_Op_operand rfl rfl rfl (hp_obj rfl) rfl (Nat.le_of_ble_eq_true rfl) (Nat.le_of_ble_eq_true rfl) (c_Op_operand (d := d) s a0 hc) ?_
  rintro _ _ ⟨rfl, rfl⟩
  show X _ _ 5 [some (.inr (.inr (some 8))), some (.inl a0), some (.inr (.inl a1)), none] [.inl (f_Op_operand s a0), .inr (.inr (some 10))] (hp s) _
  refine X_run 3 (i1 := 8) (L1 := [some (.inr (.inr (some 8))), some (.inl a0), some (.inr (.inl a1)), none]) (st1 := [.inr (.inl a1), .inl ((f_Op_operand s a0) &&& (3 : Int32)), .inr (.inr (some 10))]) rfl ?_
  obtain ⟨hin, hw⟩ := hw
  refine X_sL rfl rfl hin ?_
  show X _ _ 9 [some (.inr (.inr (some 8))), some (.inl a0), some (.inr (.inl a1)), none] [] (hp (pB s 10 (vp_updL (sB s 10) (Int32.toNatClampNeg ((f_Op_operand s a0) &&& (3 : Int32))) a1))) _
  exact X_ret rfl rfl qVs_i
def f_Op_slotAt (s : St) (a0 : Int32) : Option Nat := (sT s 11 (Int32.toNatClampNeg ((f_Op_operand s a0) &&& (15 : Int32))))
def w_Op_slotAt (s : St) (a0 : Int32) : Prop := (w_Op_operand s a0 ∧ (vp_in ((f_Op_operand s a0) &&& (15 : Int32)) 16 ∧ True))
theorem c_Op_slotAt {d : Nat} (s : St) (a0 : Int32) (hw : w_Op_slotAt s a0) : X m_Op_slotAt (d + 1) 0 (entL 2 [.inr (.inr (some 8)), .inl a0]) [] (hp s) (qR (hp s) (f_Op_slotAt s a0)) := by
  unfold f_Op_slotAt
  unfold w_Op_slotAt at hw
  refine X_run 1 (i1 := 1) (L1 := [some (.inr (.inr (some 8))), some (.inl a0)]) (st1 := [.inr (.inr (some 8))]) rfl ?_
  refine X_gF (v := .inr (.inr (some 11))) rfl rfl rfl rfl ?_
  refine X_run 2 (i1 := 4) (L1 := [some (.inr (.inr (some 8))), some (.inl a0)]) (st1 := [.inl a0, .inr (.inr (some 8)), .inr (.inr (some 11))]) rfl ?_
  obtain ⟨hc, hw⟩ := hw
  refine X_callv m_Op_operand (As := [.inl a0]) (st := [.inr (.inr (some 11))]) ok_Op_operand rfl rfl rfl (hp_obj rfl) rfl (Nat.le_of_ble_eq_true rfl) (Nat.le_of_ble_eq_true rfl) (c_Op_operand (d := d) s a0 hc) ?_
  rintro _ _ ⟨rfl, rfl⟩
  show X _ _ 5 [some (.inr (.inr (some 8))), some (.inl a0)] [.inl (f_Op_operand s a0), .inr (.inr (some 11))] (hp s) _
  refine X_run 2 (i1 := 7) (L1 := [some (.inr (.inr (some 8))), some (.inl a0)]) (st1 := [.inl ((f_Op_operand s a0) &&& (15 : Int32)), .inr (.inr (some 11))]) rfl ?_
  obtain ⟨hin, hw⟩ := hw
  refine X_aR rfl rfl hin ?_
  show X _ _ 8 [some (.inr (.inr (some 8))), some (.inl a0)] [.inr (.inr (sT s 11 (Int32.toNatClampNeg ((f_Op_operand s a0) &&& (15 : Int32)))))] (hp s) _
  exact X_aret rfl rfl qR_i
def f_Op_setSlot (s : St) (a0 : Int32) (a1 : Option Nat) : St := (pT s 11 (va_up (sT s 11) (Int32.toNatClampNeg ((f_Op_operand s a0) &&& (15 : Int32))) a1))
def w_Op_setSlot (s : St) (a0 : Int32) (a1 : Option Nat) : Prop := (w_Op_operand s a0 ∧ (vp_in ((f_Op_operand s a0) &&& (15 : Int32)) 16 ∧ (tho (sD s) a1 ∧ True)))
theorem c_Op_setSlot {d : Nat} (s : St) (a0 : Int32) (a1 : Option Nat) (hw : w_Op_setSlot s a0 a1) : X m_Op_setSlot (d + 1) 0 (entL 3 [.inr (.inr (some 8)), .inl a0, .inr (.inr a1)]) [] (hp s) (qVs (f_Op_setSlot s a0 a1)) := by
  unfold f_Op_setSlot
  unfold w_Op_setSlot at hw
  refine X_run 1 (i1 := 1) (L1 := [some (.inr (.inr (some 8))), some (.inl a0), some (.inr (.inr a1))]) (st1 := [.inr (.inr (some 8))]) rfl ?_
  refine X_gF (v := .inr (.inr (some 11))) rfl rfl rfl rfl ?_
  refine X_run 2 (i1 := 4) (L1 := [some (.inr (.inr (some 8))), some (.inl a0), some (.inr (.inr a1))]) (st1 := [.inl a0, .inr (.inr (some 8)), .inr (.inr (some 11))]) rfl ?_
  obtain ⟨hc, hw⟩ := hw
  refine X_callv m_Op_operand (As := [.inl a0]) (st := [.inr (.inr (some 11))]) ok_Op_operand rfl rfl rfl (hp_obj rfl) rfl (Nat.le_of_ble_eq_true rfl) (Nat.le_of_ble_eq_true rfl) (c_Op_operand (d := d) s a0 hc) ?_
  rintro _ _ ⟨rfl, rfl⟩
  show X _ _ 5 [some (.inr (.inr (some 8))), some (.inl a0), some (.inr (.inr a1))] [.inl (f_Op_operand s a0), .inr (.inr (some 11))] (hp s) _
  refine X_run 3 (i1 := 8) (L1 := [some (.inr (.inr (some 8))), some (.inl a0), some (.inr (.inr a1))]) (st1 := [.inr (.inr a1), .inl ((f_Op_operand s a0) &&& (15 : Int32)), .inr (.inr (some 11))]) rfl ?_
  obtain ⟨hin, hw⟩ := hw
  obtain ⟨hv, hw⟩ := hw
  refine X_sRt rfl rfl hin hv ?_
  show X _ _ 9 [some (.inr (.inr (some 8))), some (.inl a0), some (.inr (.inr a1))] [] (hp (pT s 11 (va_up (sT s 11) (Int32.toNatClampNeg ((f_Op_operand s a0) &&& (15 : Int32))) a1))) _
  exact X_ret rfl rfl qVs_i
def t_Op_miss_7 (s : St) (w0 : Int32) : St := (f_Le_fault s w0)
def w_Op_miss_7 (s : St) (w0 : Int32) : Prop := (w_Le_fault s w0 ∧ True)
theorem ct_Op_miss_7 {d : Nat} (s : St) (w0 : Int32) (hw : w_Op_miss_7 s w0) : X m_Op_miss (d + 2) 7 [none, none] [.inl w0, .inr (.inr (some 1))] (hp s) (qVs (t_Op_miss_7 s w0)) := by
  unfold t_Op_miss_7
  unfold w_Op_miss_7 at hw
  obtain ⟨hc, hw⟩ := hw
  refine X_callv m_Le_fault (As := [.inl w0]) (st := []) ok_Le_fault rfl rfl rfl (hp_obj rfl) rfl (Nat.le_of_ble_eq_true rfl) (Nat.le_of_ble_eq_true rfl) (c_Le_fault (d := d) s w0 hc) ?_
  rintro _ _ ⟨rfl, rfl⟩
  show X _ _ 8 [none, none] [] (hp (f_Le_fault s w0)) _
  exact X_ret rfl rfl qVs_i
def f_Op_miss (s : St) (a0 : Option Nat) : St := (cond (Option.isNone a0) (t_Op_miss_7 s (1 : Int32)) (t_Op_miss_7 s (4 : Int32)))
def w_Op_miss (s : St) (a0 : Option Nat) : Prop := ((Option.isNone a0) = true → (w_Op_miss_7 s (1 : Int32))) ∧ ((Option.isNone a0) = false → (w_Op_miss_7 s (4 : Int32)))
theorem c_Op_miss {d : Nat} (s : St) (a0 : Option Nat) (hw : w_Op_miss s a0) : X m_Op_miss (d + 2) 0 (entL 2 [.inr (.inr (some 8)), .inr (.inr a0)]) [] (hp s) (qVs (f_Op_miss s a0)) := by
  unfold f_Op_miss
  unfold w_Op_miss at hw
  refine X_run 1 (i1 := 1) (L1 := [some (.inr (.inr (some 8))), some (.inr (.inr a0))]) (st1 := [.inr (.inr (some 8))]) rfl ?_
  refine X_gF (v := .inr (.inr (some 1))) rfl rfl rfl rfl ?_
  refine X_run 2 (i1 := cond (Option.isNone a0) 4 6) (L1 := [some (.inr (.inr (some 8))), some (.inr (.inr a0))]) (st1 := [.inr (.inr (some 1))]) rfl ?_
  refine X_brq (fun hb => ?_) (fun hb => ?_)
  · have hw := hw.1 hb
    refine X_run 2 (i1 := 7) (L1 := [some (.inr (.inr (some 8))), some (.inr (.inr a0))]) (st1 := [.inl (1 : Int32), .inr (.inr (some 1))]) rfl ?_
    refine X_mask [false, false] ?_
    exact ct_Op_miss_7 s (1 : Int32) hw
  · have hw := hw.2 hb
    refine X_run 1 (i1 := 7) (L1 := [some (.inr (.inr (some 8))), some (.inr (.inr a0))]) (st1 := [.inl (4 : Int32), .inr (.inr (some 1))]) rfl ?_
    refine X_mask [false, false] ?_
    exact ct_Op_miss_7 s (4 : Int32) hw
def t_Op_isWithin_5 (s : St) : Bool × St := (false, (f_Le_fault s (2 : Int32)))
def w_Op_isWithin_5 (s : St) : Prop := (w_Le_fault s (2 : Int32) ∧ True)
theorem ct_Op_isWithin_5 {d : Nat} (s : St) (hw : w_Op_isWithin_5 s) : X m_Op_isWithin (d + 2) 5 [some (.inr (.inr (some 8))), none, none] [] (hp s) (qBs (t_Op_isWithin_5 s)) := by
  unfold t_Op_isWithin_5
  unfold w_Op_isWithin_5 at hw
  refine X_run 1 (i1 := 6) (L1 := [some (.inr (.inr (some 8))), none, none]) (st1 := [.inr (.inr (some 8))]) rfl ?_
  refine X_gF (v := .inr (.inr (some 1))) rfl rfl rfl rfl ?_
  refine X_run 1 (i1 := 8) (L1 := [some (.inr (.inr (some 8))), none, none]) (st1 := [.inl (2 : Int32), .inr (.inr (some 1))]) rfl ?_
  obtain ⟨hc, hw⟩ := hw
  refine X_callv m_Le_fault (As := [.inl (2 : Int32)]) (st := []) ok_Le_fault rfl rfl rfl (hp_obj rfl) rfl (Nat.le_of_ble_eq_true rfl) (Nat.le_of_ble_eq_true rfl) (c_Le_fault (d := d) s (2 : Int32) hc) ?_
  rintro _ _ ⟨rfl, rfl⟩
  show X _ _ 9 [some (.inr (.inr (some 8))), none, none] [] (hp (f_Le_fault s (2 : Int32))) _
  refine X_run 1 (i1 := 10) (L1 := [some (.inr (.inr (some 8))), none, none]) (st1 := [.inl (0 : Int32)]) rfl ?_
  exact X_zret rfl rfl (b2i_01 false) qBs_i
def f_Op_isWithin (s : St) (a0 : Int32) (a1 : Int32) : Bool × St := (cond (cn1 .lt a0) (t_Op_isWithin_5 s) (cond (cn2 .lt a0 a1) (true, s) (t_Op_isWithin_5 s)))
def w_Op_isWithin (s : St) (a0 : Int32) (a1 : Int32) : Prop := ((cn1 .lt a0) = true → (w_Op_isWithin_5 s)) ∧ ((cn1 .lt a0) = false → ((cn2 .lt a0 a1) = true → True) ∧ ((cn2 .lt a0 a1) = false → (w_Op_isWithin_5 s)))
theorem c_Op_isWithin {d : Nat} (s : St) (a0 : Int32) (a1 : Int32) (hw : w_Op_isWithin s a0 a1) : X m_Op_isWithin (d + 2) 0 (entL 3 [.inr (.inr (some 8)), .inl a0, .inl a1]) [] (hp s) (qBs (f_Op_isWithin s a0 a1)) := by
  unfold f_Op_isWithin
  unfold w_Op_isWithin at hw
  refine X_run 2 (i1 := cond (cn1 .lt a0) 5 2) (L1 := [some (.inr (.inr (some 8))), some (.inl a0), some (.inl a1)]) (st1 := []) rfl ?_
  refine X_brq (fun hb => ?_) (fun hb => ?_)
  · have hw := hw.1 hb
    refine X_mask [true, false, false] ?_
    exact ct_Op_isWithin_5 s hw
  · have hw := hw.2 hb
    refine X_run 3 (i1 := cond (cn2 .lt a0 a1) 11 5) (L1 := [some (.inr (.inr (some 8))), some (.inl a0), some (.inl a1)]) (st1 := []) rfl ?_
    refine X_brq (fun hb => ?_) (fun hb => ?_)
    · skip
      refine X_run 1 (i1 := 12) (L1 := [some (.inr (.inr (some 8))), some (.inl a0), some (.inl a1)]) (st1 := [.inl (1 : Int32)]) rfl ?_
      exact X_zret rfl rfl (b2i_01 true) qBs_i
    · have hw := hw.2 hb
      refine X_mask [true, false, false] ?_
      exact ct_Op_isWithin_5 s hw
def f_Op_eighths (a0 : Int64) : Int64 := ((a0 + (7 : Int64)) / (8 : Int64))
theorem c_Op_eighths {d : Nat} {P : AP} (a0 : Int64) : X m_Op_eighths (d) 0 (entL 2 [.inr (.inl a0)]) [] P (qL P (f_Op_eighths a0)) := by
  unfold f_Op_eighths
  refine X_run 5 (i1 := 5) (L1 := [some (.inr (.inl a0)), none]) (st1 := [.inr (.inl ((a0 + (7 : Int64)) / (8 : Int64)))]) rfl ?_
  exact X_lret rfl rfl ⟨rfl, rfl⟩
def f_Op_calculated (s : St) (a0 : Int32) (a1 : Int32) (a2 : Int32) : Int32 := (if a0 = (0 : Int32) then (a1 + a2) else (if a0 = (1 : Int32) then (a1 - a2) else (if a0 = (2 : Int32) then (a1 * a2) else (if a0 = (3 : Int32) then (cond (cn1 .ne a2) (a1 / a2) (0 : Int32)) else (if a0 = (4 : Int32) then (cond (cn1 .ne a2) (a1 - a1 / a2 * a2) (0 : Int32)) else (if a0 = (5 : Int32) then (cond (cn2 .ge a1 a2) (0 : Int32) (1 : Int32)) else (cond (cn2 .ne a1 a2) (0 : Int32) (1 : Int32))))))))
def w_Op_calculated (s : St) (a0 : Int32) (a1 : Int32) (a2 : Int32) : Prop := ((a0 = (0 : Int32) → True) ∧ (¬ a0 = (0 : Int32) → ((a0 = (1 : Int32) → True) ∧ (¬ a0 = (1 : Int32) → ((a0 = (2 : Int32) → True) ∧ (¬ a0 = (2 : Int32) → ((a0 = (3 : Int32) → ((cn1 .ne a2) = true → (¬ a2 = 0 ∧ True)) ∧ ((cn1 .ne a2) = false → True)) ∧ (¬ a0 = (3 : Int32) → ((a0 = (4 : Int32) → ((cn1 .ne a2) = true → (¬ a2 = 0 ∧ True)) ∧ ((cn1 .ne a2) = false → True)) ∧ (¬ a0 = (4 : Int32) → True))))))))))
theorem c_Op_calculated {d : Nat} (s : St) (a0 : Int32) (a1 : Int32) (a2 : Int32) (hw : w_Op_calculated s a0 a1 a2) : X m_Op_calculated (d) 0 (entL 3 [.inl a0, .inl a1, .inl a2]) [] (hp s) (qI (hp s) (f_Op_calculated s a0 a1 a2)) := by
  unfold f_Op_calculated
  unfold w_Op_calculated at hw
  refine X_run 1 (i1 := 1) (L1 := [some (.inl a0), some (.inl a1), some (.inl a2)]) (st1 := [.inl a0]) rfl ?_
  refine X_itq (fun h => ?_) (fun h1_0 => ?_)
  · refine X_tsk rfl h rfl ?_
    refine X_run 3 (i1 := 5) (L1 := [some (.inl a0), some (.inl a1), some (.inl a2)]) (st1 := [.inl (a1 + a2)]) rfl ?_
    exact X_iret rfl rfl qI_i
  have hw := hw.2 h1_0
  refine X_itq (fun h => ?_) (fun h1_1 => ?_)
  · refine X_tsk rfl h rfl ?_
    refine X_run 3 (i1 := 9) (L1 := [some (.inl a0), some (.inl a1), some (.inl a2)]) (st1 := [.inl (a1 - a2)]) rfl ?_
    exact X_iret rfl rfl qI_i
  have hw := hw.2 h1_1
  refine X_itq (fun h => ?_) (fun h1_2 => ?_)
  · refine X_tsk rfl h rfl ?_
    refine X_run 3 (i1 := 13) (L1 := [some (.inl a0), some (.inl a1), some (.inl a2)]) (st1 := [.inl (a1 * a2)]) rfl ?_
    exact X_iret rfl rfl qI_i
  have hw := hw.2 h1_2
  refine X_itq (fun h => ?_) (fun h1_3 => ?_)
  · refine X_tsk rfl h rfl ?_
    have hw := hw.1 h
    refine X_run 2 (i1 := cond (cn1 .ne a2) 18 16) (L1 := [some (.inl a0), some (.inl a1), some (.inl a2)]) (st1 := []) rfl ?_
    refine X_brq (fun hb => ?_) (fun hb => ?_)
    · have hw := hw.1 hb
      refine X_run 2 (i1 := 20) (L1 := [some (.inl a0), some (.inl a1), some (.inl a2)]) (st1 := [.inl a2, .inl a1]) rfl ?_
      obtain ⟨hy, hw⟩ := hw
      refine X_idiv rfl hy ?_
      exact X_iret rfl rfl qI_i
    · skip
      refine X_run 2 (i1 := 21) (L1 := [some (.inl a0), some (.inl a1), some (.inl a2)]) (st1 := [.inl (0 : Int32)]) rfl ?_
      exact X_iret rfl rfl qI_i
  have hw := hw.2 h1_3
  refine X_itq (fun h => ?_) (fun h1_4 => ?_)
  · refine X_tsk rfl h rfl ?_
    have hw := hw.1 h
    refine X_run 2 (i1 := cond (cn1 .ne a2) 26 24) (L1 := [some (.inl a0), some (.inl a1), some (.inl a2)]) (st1 := []) rfl ?_
    refine X_brq (fun hb => ?_) (fun hb => ?_)
    · have hw := hw.1 hb
      refine X_run 2 (i1 := 28) (L1 := [some (.inl a0), some (.inl a1), some (.inl a2)]) (st1 := [.inl a2, .inl a1]) rfl ?_
      obtain ⟨hy, hw⟩ := hw
      refine X_irem rfl hy ?_
      exact X_iret rfl rfl qI_i
    · skip
      refine X_run 2 (i1 := 29) (L1 := [some (.inl a0), some (.inl a1), some (.inl a2)]) (st1 := [.inl (0 : Int32)]) rfl ?_
      exact X_iret rfl rfl qI_i
  refine X_itq (fun h => ?_) (fun h1_5 => ?_)
  · refine X_tsk rfl h rfl ?_
    refine X_run 3 (i1 := cond (cn2 .ge a1 a2) 35 33) (L1 := [some (.inl a0), some (.inl a1), some (.inl a2)]) (st1 := []) rfl ?_
    refine X_brq (fun hb => ?_) (fun hb => ?_)
    · skip
      refine X_run 1 (i1 := 36) (L1 := [some (.inl a0), some (.inl a1), some (.inl a2)]) (st1 := [.inl (0 : Int32)]) rfl ?_
      exact X_iret rfl rfl qI_i
    · skip
      refine X_run 2 (i1 := 36) (L1 := [some (.inl a0), some (.inl a1), some (.inl a2)]) (st1 := [.inl (1 : Int32)]) rfl ?_
      exact X_iret rfl rfl qI_i
  refine X_tsd rfl ((sw_out (0) 6 (by decide) (by decide) (fun j hj => by
    match j, hj with
    | 0, _ => exact h1_0
    | 1, _ => exact h1_1
    | 2, _ => exact h1_2
    | 3, _ => exact h1_3
    | 4, _ => exact h1_4
    | 5, _ => exact h1_5
    | j + 6, hj => exact absurd hj (by omega))).imp id (fun h => by omega)) ?_
  refine X_run 3 (i1 := cond (cn2 .ne a1 a2) 42 40) (L1 := [some (.inl a0), some (.inl a1), some (.inl a2)]) (st1 := []) rfl ?_
  refine X_brq (fun hb => ?_) (fun hb => ?_)
  · skip
    refine X_run 1 (i1 := 43) (L1 := [some (.inl a0), some (.inl a1), some (.inl a2)]) (st1 := [.inl (0 : Int32)]) rfl ?_
    exact X_iret rfl rfl qI_i
  · skip
    refine X_run 2 (i1 := 43) (L1 := [some (.inl a0), some (.inl a1), some (.inl a2)]) (st1 := [.inl (1 : Int32)]) rfl ?_
    exact X_iret rfl rfl qI_i
def t_Op_calculate_13 (s : St) (v1 : Int32) (v2 : Int32) (v3 : Int32) : St := (f_Op_setNumber s (1 : Int32) (f_Op_calculated s v1 v2 v3))
def w_Op_calculate_13 (s : St) (v1 : Int32) (v2 : Int32) (v3 : Int32) : Prop := (w_Op_calculated s v1 v2 v3 ∧ (w_Op_setNumber s (1 : Int32) (f_Op_calculated s v1 v2 v3) ∧ True))
theorem ct_Op_calculate_13 {d : Nat} (s : St) (v1 : Int32) (v2 : Int32) (v3 : Int32) (hw : w_Op_calculate_13 s v1 v2 v3) : X m_Op_calculate (d + 2) 13 [some (.inr (.inr (some 8))), some (.inl v1), some (.inl v2), some (.inl v3)] [] (hp s) (qVs (t_Op_calculate_13 s v1 v2 v3)) := by
  unfold t_Op_calculate_13
  unfold w_Op_calculate_13 at hw
  refine X_run 5 (i1 := 18) (L1 := [some (.inr (.inr (some 8))), some (.inl v1), some (.inl v2), some (.inl v3)]) (st1 := [.inl v3, .inl v2, .inl v1, .inl (1 : Int32), .inr (.inr (some 8))]) rfl ?_
  obtain ⟨hc, hw⟩ := hw
  refine X_calls m_Op_calculated (As := [.inl v1, .inl v2, .inl v3]) (st := [.inl (1 : Int32), .inr (.inr (some 8))]) ok_Op_calculated rfl rfl rfl (Nat.le_of_ble_eq_true rfl) (Nat.le_of_ble_eq_true rfl) (c_Op_calculated (d := d + 1) s v1 v2 v3 hc) ?_
  rintro _ _ ⟨rfl, rfl⟩
  show X _ _ 19 [some (.inr (.inr (some 8))), some (.inl v1), some (.inl v2), some (.inl v3)] [.inl (f_Op_calculated s v1 v2 v3), .inl (1 : Int32), .inr (.inr (some 8))] (hp s) _
  obtain ⟨hc, hw⟩ := hw
  refine X_callv m_Op_setNumber (As := [.inl (1 : Int32), .inl (f_Op_calculated s v1 v2 v3)]) (st := []) ok_Op_setNumber rfl rfl rfl (hp_obj rfl) rfl (Nat.le_of_ble_eq_true rfl) (Nat.le_of_ble_eq_true rfl) (c_Op_setNumber (d := d) s (1 : Int32) (f_Op_calculated s v1 v2 v3) hc) ?_
  rintro _ _ ⟨rfl, rfl⟩
  show X _ _ 20 [some (.inr (.inr (some 8))), some (.inl v1), some (.inl v2), some (.inl v3)] [] (hp (f_Op_setNumber s (1 : Int32) (f_Op_calculated s v1 v2 v3))) _
  exact X_ret rfl rfl qVs_i
def t_Op_calculate_6 (s : St) (v1 : Int32) (v2 : Int32) (v3 : Int32) : St := (cond (cn1 .ne v3) (t_Op_calculate_13 s v1 v2 v3) (f_Le_fault s (6 : Int32)))
def w_Op_calculate_6 (s : St) (v1 : Int32) (v2 : Int32) (v3 : Int32) : Prop := ((cn1 .ne v3) = true → (w_Op_calculate_13 s v1 v2 v3)) ∧ ((cn1 .ne v3) = false → (w_Le_fault s (6 : Int32) ∧ True))
theorem ct_Op_calculate_6 {d : Nat} (s : St) (v1 : Int32) (v2 : Int32) (v3 : Int32) (hw : w_Op_calculate_6 s v1 v2 v3) : X m_Op_calculate (d + 2) 6 [some (.inr (.inr (some 8))), some (.inl v1), some (.inl v2), some (.inl v3)] [] (hp s) (qVs (t_Op_calculate_6 s v1 v2 v3)) := by
  unfold t_Op_calculate_6
  unfold w_Op_calculate_6 at hw
  refine X_run 2 (i1 := cond (cn1 .ne v3) 13 8) (L1 := [some (.inr (.inr (some 8))), some (.inl v1), some (.inl v2), some (.inl v3)]) (st1 := []) rfl ?_
  refine X_brq (fun hb => ?_) (fun hb => ?_)
  · have hw := hw.1 hb
    exact ct_Op_calculate_13 s v1 v2 v3 hw
  · have hw := hw.2 hb
    refine X_run 1 (i1 := 9) (L1 := [some (.inr (.inr (some 8))), some (.inl v1), some (.inl v2), some (.inl v3)]) (st1 := [.inr (.inr (some 8))]) rfl ?_
    refine X_gF (v := .inr (.inr (some 1))) rfl rfl rfl rfl ?_
    refine X_run 1 (i1 := 11) (L1 := [some (.inr (.inr (some 8))), some (.inl v1), some (.inl v2), some (.inl v3)]) (st1 := [.inl (6 : Int32), .inr (.inr (some 1))]) rfl ?_
    obtain ⟨hc, hw⟩ := hw
    refine X_callv m_Le_fault (As := [.inl (6 : Int32)]) (st := []) ok_Le_fault rfl rfl rfl (hp_obj rfl) rfl (Nat.le_of_ble_eq_true rfl) (Nat.le_of_ble_eq_true rfl) (c_Le_fault (d := d) s (6 : Int32) hc) ?_
    rintro _ _ ⟨rfl, rfl⟩
    show X _ _ 12 [some (.inr (.inr (some 8))), some (.inl v1), some (.inl v2), some (.inl v3)] [] (hp (f_Le_fault s (6 : Int32))) _
    exact X_ret rfl rfl qVs_i
def f_Op_calculate (s : St) (a0 : Int32) (a1 : Int32) (a2 : Int32) : St := (cond (cn2 .eq a0 (3 : Int32)) (t_Op_calculate_6 s a0 a1 a2) (cond (cn2 .ne a0 (4 : Int32)) (t_Op_calculate_13 s a0 a1 a2) (t_Op_calculate_6 s a0 a1 a2)))
def w_Op_calculate (s : St) (a0 : Int32) (a1 : Int32) (a2 : Int32) : Prop := ((cn2 .eq a0 (3 : Int32)) = true → (w_Op_calculate_6 s a0 a1 a2)) ∧ ((cn2 .eq a0 (3 : Int32)) = false → ((cn2 .ne a0 (4 : Int32)) = true → (w_Op_calculate_13 s a0 a1 a2)) ∧ ((cn2 .ne a0 (4 : Int32)) = false → (w_Op_calculate_6 s a0 a1 a2)))
theorem c_Op_calculate {d : Nat} (s : St) (a0 : Int32) (a1 : Int32) (a2 : Int32) (hw : w_Op_calculate s a0 a1 a2) : X m_Op_calculate (d + 2) 0 (entL 4 [.inr (.inr (some 8)), .inl a0, .inl a1, .inl a2]) [] (hp s) (qVs (f_Op_calculate s a0 a1 a2)) := by
  unfold f_Op_calculate
  unfold w_Op_calculate at hw
  refine X_run 3 (i1 := cond (cn2 .eq a0 (3 : Int32)) 6 3) (L1 := [some (.inr (.inr (some 8))), some (.inl a0), some (.inl a1), some (.inl a2)]) (st1 := []) rfl ?_
  refine X_brq (fun hb => ?_) (fun hb => ?_)
  · have hw := hw.1 hb
    exact ct_Op_calculate_6 s a0 a1 a2 hw
  · have hw := hw.2 hb
    refine X_run 3 (i1 := cond (cn2 .ne a0 (4 : Int32)) 13 6) (L1 := [some (.inr (.inr (some 8))), some (.inl a0), some (.inl a1), some (.inl a2)]) (st1 := []) rfl ?_
    refine X_brq (fun hb => ?_) (fun hb => ?_)
    · have hw := hw.1 hb
      exact ct_Op_calculate_13 s a0 a1 a2 hw
    · have hw := hw.2 hb
      exact ct_Op_calculate_6 s a0 a1 a2 hw
def t_Op_makeRow_31 (s : St) (w0 : Int32) : St := s
def w_Op_makeRow_31 (s : St) (w0 : Int32) : Prop := True
theorem ct_Op_makeRow_31 {d : Nat} (s : St) (w0 : Int32) (hw : w_Op_makeRow_31 s w0) : X m_Op_makeRow (d + 3) 31 [none, none] [.inl w0] (hp s) (qVs (t_Op_makeRow_31 s w0)) := by
  unfold t_Op_makeRow_31
  unfold w_Op_makeRow_31 at hw
  refine X_run 1 (i1 := 32) (L1 := [none, none]) (st1 := []) rfl ?_
  exact X_ret rfl rfl qVs_i
def t_Op_makeRow_25 (s : St) (v1 : Int32) : St := (t_Op_makeRow_31 ((f_Le_burn s (f_Op_eighths (Int32.toInt64 v1))).2) (b2i (f_Le_burn s (f_Op_eighths (Int32.toInt64 v1))).1))
def w_Op_makeRow_25 (s : St) (v1 : Int32) : Prop := (w_Le_burn s (f_Op_eighths (Int32.toInt64 v1)) ∧ (w_Op_makeRow_31 ((f_Le_burn s (f_Op_eighths (Int32.toInt64 v1))).2) (b2i (f_Le_burn s (f_Op_eighths (Int32.toInt64 v1))).1)))
theorem ct_Op_makeRow_25 {d : Nat} (s : St) (v1 : Int32) (hw : w_Op_makeRow_25 s v1) : X m_Op_makeRow (d + 3) 25 [some (.inr (.inr (some 8))), some (.inl v1)] [] (hp s) (qVs (t_Op_makeRow_25 s v1)) := by
  unfold t_Op_makeRow_25
  unfold w_Op_makeRow_25 at hw
  refine X_run 1 (i1 := 26) (L1 := [some (.inr (.inr (some 8))), some (.inl v1)]) (st1 := [.inr (.inr (some 8))]) rfl ?_
  refine X_gF (v := .inr (.inr (some 1))) rfl rfl rfl rfl ?_
  refine X_run 2 (i1 := 29) (L1 := [some (.inr (.inr (some 8))), some (.inl v1)]) (st1 := [.inr (.inl (Int32.toInt64 v1)), .inr (.inr (some 1))]) rfl ?_
  refine X_calls m_Op_eighths (As := [.inr (.inl (Int32.toInt64 v1))]) (st := [.inr (.inr (some 1))]) ok_Op_eighths rfl rfl rfl (Nat.le_of_ble_eq_true rfl) (Nat.le_of_ble_eq_true rfl) (c_Op_eighths (d := d + 2) (Int32.toInt64 v1)) ?_
  rintro _ _ ⟨rfl, rfl⟩
  show X _ _ 30 [some (.inr (.inr (some 8))), some (.inl v1)] [.inr (.inl (f_Op_eighths (Int32.toInt64 v1))), .inr (.inr (some 1))] (hp s) _
  obtain ⟨hc, hw⟩ := hw
  refine X_callv m_Le_burn (As := [.inr (.inl (f_Op_eighths (Int32.toInt64 v1)))]) (st := []) ok_Le_burn rfl rfl rfl (hp_obj rfl) rfl (Nat.le_of_ble_eq_true rfl) (Nat.le_of_ble_eq_true rfl) (c_Le_burn (d := d + 2) s (f_Op_eighths (Int32.toInt64 v1)) hc) ?_
  rintro _ _ ⟨rfl, rfl⟩
  show X _ _ 31 [some (.inr (.inr (some 8))), some (.inl v1)] [.inl (b2i (f_Le_burn s (f_Op_eighths (Int32.toInt64 v1))).1)] (hp ((f_Le_burn s (f_Op_eighths (Int32.toInt64 v1))).2)) _
  show X _ _ 31 [some (.inr (.inr (some 8))), some (.inl v1)] [.inl (b2i (f_Le_burn s (f_Op_eighths (Int32.toInt64 v1))).1)] (hp ((f_Le_burn s (f_Op_eighths (Int32.toInt64 v1))).2)) _
  refine X_mask [false, false] ?_
  exact ct_Op_makeRow_31 ((f_Le_burn s (f_Op_eighths (Int32.toInt64 v1))).2) (b2i (f_Le_burn s (f_Op_eighths (Int32.toInt64 v1))).1) hw
def t_Op_makeRow_24 (s : St) (v1 : Int32) (w0 : Option Nat) (w1 : Int32) : St := (t_Op_makeRow_25 (f_Op_setSlot s w1 w0) v1)
def w_Op_makeRow_24 (s : St) (v1 : Int32) (w0 : Option Nat) (w1 : Int32) : Prop := (w_Op_setSlot s w1 w0 ∧ (w_Op_makeRow_25 (f_Op_setSlot s w1 w0) v1))
theorem ct_Op_makeRow_24 {d : Nat} (s : St) (v1 : Int32) (w0 : Option Nat) (w1 : Int32) (hw : w_Op_makeRow_24 s v1 w0 w1) : X m_Op_makeRow (d + 3) 24 [some (.inr (.inr (some 8))), some (.inl v1)] [.inr (.inr w0), .inl w1, .inr (.inr (some 8))] (hp s) (qVs (t_Op_makeRow_24 s v1 w0 w1)) := by
  unfold t_Op_makeRow_24
  unfold w_Op_makeRow_24 at hw
  obtain ⟨hc, hw⟩ := hw
  refine X_callv m_Op_setSlot (As := [.inl w1, .inr (.inr w0)]) (st := []) ok_Op_setSlot rfl rfl rfl (hp_obj rfl) rfl (Nat.le_of_ble_eq_true rfl) (Nat.le_of_ble_eq_true rfl) (c_Op_setSlot (d := d + 1) s w1 w0 hc) ?_
  rintro _ _ ⟨rfl, rfl⟩
  show X _ _ 25 [some (.inr (.inr (some 8))), some (.inl v1)] [] (hp (f_Op_setSlot s w1 w0)) _
  show X _ _ 25 [some (.inr (.inr (some 8))), some (.inl v1)] [] (hp (f_Op_setSlot s w1 w0)) _
  exact ct_Op_makeRow_25 (f_Op_setSlot s w1 w0) v1 hw
def t_Op_makeRow_14 (s : St) (v1 : Int32) (w0 : Int32) : St := (cond (cn1 .eq w0) s (t_Op_makeRow_24 (f_Ro_init (pQ s (nwO (sD s) (sN s) 6) ((sN s) + 1) ((sU s) + 2)) (some (sN s)) (f_Op_operand (pQ s (nwO (sD s) (sN s) 6) ((sN s) + 1) ((sU s) + 2)) (2 : Int32)) v1) v1 (some (sN s)) (1 : Int32)))
def w_Op_makeRow_14 (s : St) (v1 : Int32) (w0 : Int32) : Prop := ((cn1 .eq w0) = true → True) ∧ ((cn1 .eq w0) = false → (rm (sN s) (sU s) 2 ∧ (w_Op_operand (pQ s (nwO (sD s) (sN s) 6) ((sN s) + 1) ((sU s) + 2)) (2 : Int32) ∧ (w_Ro_init (pQ s (nwO (sD s) (sN s) 6) ((sN s) + 1) ((sU s) + 2)) (some (sN s)) (f_Op_operand (pQ s (nwO (sD s) (sN s) 6) ((sN s) + 1) ((sU s) + 2)) (2 : Int32)) v1 ∧ ((oC (nwO (sD s) (sN s) 6) (some (sN s))).isSome = true ∧ (w_Op_makeRow_24 (f_Ro_init (pQ s (nwO (sD s) (sN s) 6) ((sN s) + 1) ((sU s) + 2)) (some (sN s)) (f_Op_operand (pQ s (nwO (sD s) (sN s) 6) ((sN s) + 1) ((sU s) + 2)) (2 : Int32)) v1) v1 (some (sN s)) (1 : Int32)))))))
theorem ct_Op_makeRow_14 {d : Nat} (s : St) (v1 : Int32) (w0 : Int32) (hw : w_Op_makeRow_14 s v1 w0) : X m_Op_makeRow (d + 3) 14 [some (.inr (.inr (some 8))), some (.inl v1)] [.inl w0] (hp s) (qVs (t_Op_makeRow_14 s v1 w0)) := by
  unfold t_Op_makeRow_14
  unfold w_Op_makeRow_14 at hw
  refine X_run 1 (i1 := cond (cn1 .eq w0) 32 15) (L1 := [some (.inr (.inr (some 8))), some (.inl v1)]) (st1 := []) rfl ?_
  refine X_brq (fun hb => ?_) (fun hb => ?_)
  · skip
    exact X_ret rfl rfl qVs_i
  · have hw := hw.2 hb
    refine X_run 2 (i1 := 17) (L1 := [some (.inr (.inr (some 8))), some (.inl v1)]) (st1 := [.inl (1 : Int32), .inr (.inr (some 8))]) rfl ?_
    obtain ⟨hr, hw⟩ := hw
    refine X_dnew rfl rfl rfl hr ?_
    show X _ _ 18 [some (.inr (.inr (some 8))), some (.inl v1)] [.inr (.inr (some (sN s))), .inl (1 : Int32), .inr (.inr (some 8))] (hp (pQ s (nwO (sD s) (sN s) 6) ((sN s) + 1) ((sU s) + 2))) _
    refine X_run 3 (i1 := 21) (L1 := [some (.inr (.inr (some 8))), some (.inl v1)]) (st1 := [.inl (2 : Int32), .inr (.inr (some 8)), .inr (.inr (some (sN s))), .inr (.inr (some (sN s))), .inl (1 : Int32), .inr (.inr (some 8))]) rfl ?_
    obtain ⟨hc, hw⟩ := hw
    refine X_callv m_Op_operand (As := [.inl (2 : Int32)]) (st := [.inr (.inr (some (sN s))), .inr (.inr (some (sN s))), .inl (1 : Int32), .inr (.inr (some 8))]) ok_Op_operand rfl rfl rfl (hp_obj rfl) rfl (Nat.le_of_ble_eq_true rfl) (Nat.le_of_ble_eq_true rfl) (c_Op_operand (d := d + 2) (pQ s (nwO (sD s) (sN s) 6) ((sN s) + 1) ((sU s) + 2)) (2 : Int32) hc) ?_
    rintro _ _ ⟨rfl, rfl⟩
    show X _ _ 22 [some (.inr (.inr (some 8))), some (.inl v1)] [.inl (f_Op_operand (pQ s (nwO (sD s) (sN s) 6) ((sN s) + 1) ((sU s) + 2)) (2 : Int32)), .inr (.inr (some (sN s))), .inr (.inr (some (sN s))), .inl (1 : Int32), .inr (.inr (some 8))] (hp (pQ s (nwO (sD s) (sN s) 6) ((sN s) + 1) ((sU s) + 2))) _
    refine X_run 1 (i1 := 23) (L1 := [some (.inr (.inr (some 8))), some (.inl v1)]) (st1 := [.inl v1, .inl (f_Op_operand (pQ s (nwO (sD s) (sN s) 6) ((sN s) + 1) ((sU s) + 2)) (2 : Int32)), .inr (.inr (some (sN s))), .inr (.inr (some (sN s))), .inl (1 : Int32), .inr (.inr (some 8))]) rfl ?_
    obtain ⟨hc, hw⟩ := hw
    obtain ⟨hr, hw⟩ := hw
    refine X_dcalln m_Ro_init (As := [.inl (f_Op_operand (pQ s (nwO (sD s) (sN s) 6) ((sN s) + 1) ((sU s) + 2)) (2 : Int32)), .inl v1]) (st := [.inr (.inr (some (sN s))), .inl (1 : Int32), .inr (.inr (some 8))]) ok_Ro_init rfl rfl rfl rfl hr (Nat.le_of_ble_eq_true rfl) (Nat.le_of_ble_eq_true rfl) (c_Ro_init (d := d) (pQ s (nwO (sD s) (sN s) 6) ((sN s) + 1) ((sU s) + 2)) (some (sN s)) (f_Op_operand (pQ s (nwO (sD s) (sN s) 6) ((sN s) + 1) ((sU s) + 2)) (2 : Int32)) v1 hc) ?_
    rintro _ _ ⟨rfl, rfl⟩
    show X _ _ 24 [some (.inr (.inr (some 8))), some (.inl v1)] [.inr (.inr (some (sN s))), .inl (1 : Int32), .inr (.inr (some 8))] (hp (f_Ro_init (pQ s (nwO (sD s) (sN s) 6) ((sN s) + 1) ((sU s) + 2)) (some (sN s)) (f_Op_operand (pQ s (nwO (sD s) (sN s) 6) ((sN s) + 1) ((sU s) + 2)) (2 : Int32)) v1)) _
    show X _ _ 24 [some (.inr (.inr (some 8))), some (.inl v1)] [.inr (.inr (some (sN s))), .inl (1 : Int32), .inr (.inr (some 8))] (hp (f_Ro_init (pQ s (nwO (sD s) (sN s) 6) ((sN s) + 1) ((sU s) + 2)) (some (sN s)) (f_Op_operand (pQ s (nwO (sD s) (sN s) 6) ((sN s) + 1) ((sU s) + 2)) (2 : Int32)) v1)) _
    exact ct_Op_makeRow_24 (f_Ro_init (pQ s (nwO (sD s) (sN s) 6) ((sN s) + 1) ((sU s) + 2)) (some (sN s)) (f_Op_operand (pQ s (nwO (sD s) (sN s) 6) ((sN s) + 1) ((sU s) + 2)) (2 : Int32)) v1) v1 (some (sN s)) (1 : Int32) hw
def f_Op_makeRow (s : St) (a0 : Int32) : St := (cond (cn1 .ge a0) (t_Op_makeRow_14 ((f_Le_make s ((1 : Int64) + (Int32.toInt64 a0))).2) a0 (b2i (f_Le_make s ((1 : Int64) + (Int32.toInt64 a0))).1)) (f_Le_fault s (3 : Int32)))
def w_Op_makeRow (s : St) (a0 : Int32) : Prop := ((cn1 .ge a0) = true → (w_Le_make s ((1 : Int64) + (Int32.toInt64 a0)) ∧ (w_Op_makeRow_14 ((f_Le_make s ((1 : Int64) + (Int32.toInt64 a0))).2) a0 (b2i (f_Le_make s ((1 : Int64) + (Int32.toInt64 a0))).1)))) ∧ ((cn1 .ge a0) = false → (w_Le_fault s (3 : Int32) ∧ True))
theorem c_Op_makeRow {d : Nat} (s : St) (a0 : Int32) (hw : w_Op_makeRow s a0) : X m_Op_makeRow (d + 3) 0 (entL 2 [.inr (.inr (some 8)), .inl a0]) [] (hp s) (qVs (f_Op_makeRow s a0)) := by
  unfold f_Op_makeRow
  unfold w_Op_makeRow at hw
  refine X_run 2 (i1 := cond (cn1 .ge a0) 7 2) (L1 := [some (.inr (.inr (some 8))), some (.inl a0)]) (st1 := []) rfl ?_
  refine X_brq (fun hb => ?_) (fun hb => ?_)
  · have hw := hw.1 hb
    refine X_run 1 (i1 := 8) (L1 := [some (.inr (.inr (some 8))), some (.inl a0)]) (st1 := [.inr (.inr (some 8))]) rfl ?_
    refine X_gF (v := .inr (.inr (some 1))) rfl rfl rfl rfl ?_
    refine X_run 4 (i1 := 13) (L1 := [some (.inr (.inr (some 8))), some (.inl a0)]) (st1 := [.inr (.inl ((1 : Int64) + (Int32.toInt64 a0))), .inr (.inr (some 1))]) rfl ?_
    obtain ⟨hc, hw⟩ := hw
    refine X_callv m_Le_make (As := [.inr (.inl ((1 : Int64) + (Int32.toInt64 a0)))]) (st := []) ok_Le_make rfl rfl rfl (hp_obj rfl) rfl (Nat.le_of_ble_eq_true rfl) (Nat.le_of_ble_eq_true rfl) (c_Le_make (d := d + 2) s ((1 : Int64) + (Int32.toInt64 a0)) hc) ?_
    rintro _ _ ⟨rfl, rfl⟩
    show X _ _ 14 [some (.inr (.inr (some 8))), some (.inl a0)] [.inl (b2i (f_Le_make s ((1 : Int64) + (Int32.toInt64 a0))).1)] (hp ((f_Le_make s ((1 : Int64) + (Int32.toInt64 a0))).2)) _
    show X _ _ 14 [some (.inr (.inr (some 8))), some (.inl a0)] [.inl (b2i (f_Le_make s ((1 : Int64) + (Int32.toInt64 a0))).1)] (hp ((f_Le_make s ((1 : Int64) + (Int32.toInt64 a0))).2)) _
    exact ct_Op_makeRow_14 ((f_Le_make s ((1 : Int64) + (Int32.toInt64 a0))).2) a0 (b2i (f_Le_make s ((1 : Int64) + (Int32.toInt64 a0))).1) hw
  · have hw := hw.2 hb
    refine X_run 1 (i1 := 3) (L1 := [some (.inr (.inr (some 8))), some (.inl a0)]) (st1 := [.inr (.inr (some 8))]) rfl ?_
    refine X_gF (v := .inr (.inr (some 1))) rfl rfl rfl rfl ?_
    refine X_run 1 (i1 := 5) (L1 := [some (.inr (.inr (some 8))), some (.inl a0)]) (st1 := [.inl (3 : Int32), .inr (.inr (some 1))]) rfl ?_
    obtain ⟨hc, hw⟩ := hw
    refine X_callv m_Le_fault (As := [.inl (3 : Int32)]) (st := []) ok_Le_fault rfl rfl rfl (hp_obj rfl) rfl (Nat.le_of_ble_eq_true rfl) (Nat.le_of_ble_eq_true rfl) (c_Le_fault (d := d + 1) s (3 : Int32) hc) ?_
    rintro _ _ ⟨rfl, rfl⟩
    show X _ _ 6 [some (.inr (.inr (some 8))), some (.inl a0)] [] (hp (f_Le_fault s (3 : Int32))) _
    refine X_run 1 (i1 := 32) (L1 := [some (.inr (.inr (some 8))), some (.inl a0)]) (st1 := []) rfl ?_
    exact X_ret rfl rfl qVs_i
def t_Op_makeGrid_63 (fu : Nat) (s : St) (w0 : Int32) : St := s
def w_Op_makeGrid_63 (fu : Nat) (s : St) (w0 : Int32) : Prop := True
theorem ct_Op_makeGrid_63 {d : Nat} (fu : Nat) (s : St) (w0 : Int32) (hw : w_Op_makeGrid_63 fu s w0) : X m_Op_makeGrid (d + 3) 63 [none, none, none, none, none] [.inl w0] (hp s) (qVs (t_Op_makeGrid_63 fu s w0)) := by
  unfold t_Op_makeGrid_63
  unfold w_Op_makeGrid_63 at hw
  refine X_run 1 (i1 := 64) (L1 := [none, none, none, none, none]) (st1 := []) rfl ?_
  exact X_ret rfl rfl qVs_i
def t_Op_makeGrid_51 (fu : Nat) (s : St) (v1 : Int32) (v2 : Int32) : St := (t_Op_makeGrid_63 fu ((f_Le_burn s (f_Op_eighths (((Int32.toInt64 v1) * (Int32.toInt64 v2)) + (Int32.toInt64 v1)))).2) (b2i (f_Le_burn s (f_Op_eighths (((Int32.toInt64 v1) * (Int32.toInt64 v2)) + (Int32.toInt64 v1)))).1))
def w_Op_makeGrid_51 (fu : Nat) (s : St) (v1 : Int32) (v2 : Int32) : Prop := (w_Le_burn s (f_Op_eighths (((Int32.toInt64 v1) * (Int32.toInt64 v2)) + (Int32.toInt64 v1))) ∧ (w_Op_makeGrid_63 fu ((f_Le_burn s (f_Op_eighths (((Int32.toInt64 v1) * (Int32.toInt64 v2)) + (Int32.toInt64 v1)))).2) (b2i (f_Le_burn s (f_Op_eighths (((Int32.toInt64 v1) * (Int32.toInt64 v2)) + (Int32.toInt64 v1)))).1)))
theorem ct_Op_makeGrid_51 {d : Nat} (fu : Nat) (s : St) (v1 : Int32) (v2 : Int32) (hw : w_Op_makeGrid_51 fu s v1 v2) : X m_Op_makeGrid (d + 3) 51 [some (.inr (.inr (some 8))), some (.inl v1), some (.inl v2), none, none] [] (hp s) (qVs (t_Op_makeGrid_51 fu s v1 v2)) := by
  unfold t_Op_makeGrid_51
  unfold w_Op_makeGrid_51 at hw
  refine X_run 1 (i1 := 52) (L1 := [some (.inr (.inr (some 8))), some (.inl v1), some (.inl v2), none, none]) (st1 := [.inr (.inr (some 8))]) rfl ?_
  refine X_gF (v := .inr (.inr (some 1))) rfl rfl rfl rfl ?_
  refine X_run 8 (i1 := 61) (L1 := [some (.inr (.inr (some 8))), some (.inl v1), some (.inl v2), none, none]) (st1 := [.inr (.inl (((Int32.toInt64 v1) * (Int32.toInt64 v2)) + (Int32.toInt64 v1))), .inr (.inr (some 1))]) rfl ?_
  refine X_calls m_Op_eighths (As := [.inr (.inl (((Int32.toInt64 v1) * (Int32.toInt64 v2)) + (Int32.toInt64 v1)))]) (st := [.inr (.inr (some 1))]) ok_Op_eighths rfl rfl rfl (Nat.le_of_ble_eq_true rfl) (Nat.le_of_ble_eq_true rfl) (c_Op_eighths (d := d + 2) (((Int32.toInt64 v1) * (Int32.toInt64 v2)) + (Int32.toInt64 v1))) ?_
  rintro _ _ ⟨rfl, rfl⟩
  show X _ _ 62 [some (.inr (.inr (some 8))), some (.inl v1), some (.inl v2), none, none] [.inr (.inl (f_Op_eighths (((Int32.toInt64 v1) * (Int32.toInt64 v2)) + (Int32.toInt64 v1)))), .inr (.inr (some 1))] (hp s) _
  obtain ⟨hc, hw⟩ := hw
  refine X_callv m_Le_burn (As := [.inr (.inl (f_Op_eighths (((Int32.toInt64 v1) * (Int32.toInt64 v2)) + (Int32.toInt64 v1))))]) (st := []) ok_Le_burn rfl rfl rfl (hp_obj rfl) rfl (Nat.le_of_ble_eq_true rfl) (Nat.le_of_ble_eq_true rfl) (c_Le_burn (d := d + 2) s (f_Op_eighths (((Int32.toInt64 v1) * (Int32.toInt64 v2)) + (Int32.toInt64 v1))) hc) ?_
  rintro _ _ ⟨rfl, rfl⟩
  show X _ _ 63 [some (.inr (.inr (some 8))), some (.inl v1), some (.inl v2), none, none] [.inl (b2i (f_Le_burn s (f_Op_eighths (((Int32.toInt64 v1) * (Int32.toInt64 v2)) + (Int32.toInt64 v1)))).1)] (hp ((f_Le_burn s (f_Op_eighths (((Int32.toInt64 v1) * (Int32.toInt64 v2)) + (Int32.toInt64 v1)))).2)) _
  show X _ _ 63 [some (.inr (.inr (some 8))), some (.inl v1), some (.inl v2), none, none] [.inl (b2i (f_Le_burn s (f_Op_eighths (((Int32.toInt64 v1) * (Int32.toInt64 v2)) + (Int32.toInt64 v1)))).1)] (hp ((f_Le_burn s (f_Op_eighths (((Int32.toInt64 v1) * (Int32.toInt64 v2)) + (Int32.toInt64 v1)))).2)) _
  refine X_mask [false, false, false, true, true] ?_
  exact ct_Op_makeGrid_63 fu ((f_Le_burn s (f_Op_eighths (((Int32.toInt64 v1) * (Int32.toInt64 v2)) + (Int32.toInt64 v1)))).2) (b2i (f_Le_burn s (f_Op_eighths (((Int32.toInt64 v1) * (Int32.toInt64 v2)) + (Int32.toInt64 v1)))).1) hw
abbrev LT_Op_makeGrid_33 : Type := (St → Int32 → Int32 → Option Nat → Int32 → St) × (St → Int32 → Int32 → Option Nat → Int32 → Option Nat → Int32 → Option Nat → St)
abbrev LW_Op_makeGrid_33 : Type := (St → Int32 → Int32 → Option Nat → Int32 → Prop) × (St → Int32 → Int32 → Option Nat → Int32 → Option Nat → Int32 → Option Nat → Prop)
def hl_Op_makeGrid_33 (d : Nat) (lp : LT_Op_makeGrid_33) (wlp : LW_Op_makeGrid_33) : Prop := (∀ (s : St) (v1 : Int32) (v2 : Int32) (v3 : Option Nat) (v4 : Int32), wlp.1 s v1 v2 v3 v4 → X m_Op_makeGrid d 33 [some (.inr (.inr (some 8))), some (.inl v1), some (.inl v2), some (.inr (.inr v3)), some (.inl v4)] [] (hp s) (qVs (lp.1 s v1 v2 v3 v4))) ∧ (∀ (s : St) (v1 : Int32) (v2 : Int32) (v3 : Option Nat) (v4 : Int32) (w0 : Option Nat) (w1 : Int32) (w2 : Option Nat), wlp.2 s v1 v2 v3 v4 w0 w1 w2 → X m_Op_makeGrid d 44 [some (.inr (.inr (some 8))), some (.inl v1), some (.inl v2), some (.inr (.inr v3)), some (.inl v4)] [.inr (.inr w0), .inl w1, .inr (.inr w2)] (hp s) (qVs (lp.2 s v1 v2 v3 v4 w0 w1 w2)))
def b_Op_makeGrid_33 (fu : Nat) (lp : LT_Op_makeGrid_33) (s : St) (v1 : Int32) (v2 : Int32) (v3 : Option Nat) (v4 : Int32) : St := (cond (cn2 .ge v4 v1) (t_Op_makeGrid_51 fu (f_Op_setSlot s (1 : Int32) v3) v1 v2) (lp.2 (f_Ro_init (pQ s (nwO (sD s) (sN s) 6) ((sN s) + 1) ((sU s) + 2)) (some (sN s)) (4 : Int32) v2) v1 v2 v3 v4 (some (sN s)) v4 (gR (sD s) v3 1)))
def v_Op_makeGrid_33 (fu : Nat) (lp : LT_Op_makeGrid_33) (wlp : LW_Op_makeGrid_33) (s : St) (v1 : Int32) (v2 : Int32) (v3 : Option Nat) (v4 : Int32) : Prop := ((cn2 .ge v4 v1) = true → (w_Op_setSlot s (1 : Int32) v3 ∧ (w_Op_makeGrid_51 fu (f_Op_setSlot s (1 : Int32) v3) v1 v2))) ∧ ((cn2 .ge v4 v1) = false → (ob (sD s) v3 7 ∧ (rm (sN s) (sU s) 2 ∧ (w_Ro_init (pQ s (nwO (sD s) (sN s) 6) ((sN s) + 1) ((sU s) + 2)) (some (sN s)) (4 : Int32) v2 ∧ ((oC (nwO (sD s) (sN s) 6) (some (sN s))).isSome = true ∧ (wlp.2 (f_Ro_init (pQ s (nwO (sD s) (sN s) 6) ((sN s) + 1) ((sU s) + 2)) (some (sN s)) (4 : Int32) v2) v1 v2 v3 v4 (some (sN s)) v4 (gR (sD s) v3 1)))))))
theorem cb_Op_makeGrid_33 {d : Nat} (fu : Nat) {lp : LT_Op_makeGrid_33} {wlp : LW_Op_makeGrid_33} (hlp : hl_Op_makeGrid_33 (d + 3) lp wlp) (s : St) (v1 : Int32) (v2 : Int32) (v3 : Option Nat) (v4 : Int32) (hw : v_Op_makeGrid_33 fu lp wlp s v1 v2 v3 v4) : X m_Op_makeGrid (d + 3) 33 [some (.inr (.inr (some 8))), some (.inl v1), some (.inl v2), some (.inr (.inr v3)), some (.inl v4)] [] (hp s) (qVs (b_Op_makeGrid_33 fu lp s v1 v2 v3 v4)) := by
  unfold b_Op_makeGrid_33
  unfold v_Op_makeGrid_33 at hw
  refine X_run 3 (i1 := cond (cn2 .ge v4 v1) 47 36) (L1 := [some (.inr (.inr (some 8))), some (.inl v1), some (.inl v2), some (.inr (.inr v3)), some (.inl v4)]) (st1 := []) rfl ?_
  refine X_brq (fun hb => ?_) (fun hb => ?_)
  · have hw := hw.1 hb
    refine X_run 3 (i1 := 50) (L1 := [some (.inr (.inr (some 8))), some (.inl v1), some (.inl v2), some (.inr (.inr v3)), some (.inl v4)]) (st1 := [.inr (.inr v3), .inl (1 : Int32), .inr (.inr (some 8))]) rfl ?_
    obtain ⟨hc, hw⟩ := hw
    refine X_callv m_Op_setSlot (As := [.inl (1 : Int32), .inr (.inr v3)]) (st := []) ok_Op_setSlot rfl rfl rfl (hp_obj rfl) rfl (Nat.le_of_ble_eq_true rfl) (Nat.le_of_ble_eq_true rfl) (c_Op_setSlot (d := d + 1) s (1 : Int32) v3 hc) ?_
    rintro _ _ ⟨rfl, rfl⟩
    show X _ _ 51 [some (.inr (.inr (some 8))), some (.inl v1), some (.inl v2), some (.inr (.inr v3)), some (.inl v4)] [] (hp (f_Op_setSlot s (1 : Int32) v3)) _
    show X _ _ 51 [some (.inr (.inr (some 8))), some (.inl v1), some (.inl v2), some (.inr (.inr v3)), some (.inl v4)] [] (hp (f_Op_setSlot s (1 : Int32) v3)) _
    refine X_mask [true, true, true, false, false] ?_
    exact ct_Op_makeGrid_51 fu (f_Op_setSlot s (1 : Int32) v3) v1 v2 hw
  · have hw := hw.2 hb
    refine X_run 1 (i1 := 37) (L1 := [some (.inr (.inr (some 8))), some (.inl v1), some (.inl v2), some (.inr (.inr v3)), some (.inl v4)]) (st1 := [.inr (.inr v3)]) rfl ?_
    obtain ⟨hc, hw⟩ := hw
    refine X_dR rfl hc rfl ?_
    show X _ _ 38 [some (.inr (.inr (some 8))), some (.inl v1), some (.inl v2), some (.inr (.inr v3)), some (.inl v4)] [.inr (.inr (gR (sD s) v3 1))] (hp s) _
    refine X_run 1 (i1 := 39) (L1 := [some (.inr (.inr (some 8))), some (.inl v1), some (.inl v2), some (.inr (.inr v3)), some (.inl v4)]) (st1 := [.inl v4, .inr (.inr (gR (sD s) v3 1))]) rfl ?_
    obtain ⟨hr, hw⟩ := hw
    refine X_dnew rfl rfl rfl hr ?_
    show X _ _ 40 [some (.inr (.inr (some 8))), some (.inl v1), some (.inl v2), some (.inr (.inr v3)), some (.inl v4)] [.inr (.inr (some (sN s))), .inl v4, .inr (.inr (gR (sD s) v3 1))] (hp (pQ s (nwO (sD s) (sN s) 6) ((sN s) + 1) ((sU s) + 2))) _
    refine X_run 3 (i1 := 43) (L1 := [some (.inr (.inr (some 8))), some (.inl v1), some (.inl v2), some (.inr (.inr v3)), some (.inl v4)]) (st1 := [.inl v2, .inl (4 : Int32), .inr (.inr (some (sN s))), .inr (.inr (some (sN s))), .inl v4, .inr (.inr (gR (sD s) v3 1))]) rfl ?_
    obtain ⟨hc, hw⟩ := hw
    obtain ⟨hr, hw⟩ := hw
    refine X_dcalln m_Ro_init (As := [.inl (4 : Int32), .inl v2]) (st := [.inr (.inr (some (sN s))), .inl v4, .inr (.inr (gR (sD s) v3 1))]) ok_Ro_init rfl rfl rfl rfl hr (Nat.le_of_ble_eq_true rfl) (Nat.le_of_ble_eq_true rfl) (c_Ro_init (d := d) (pQ s (nwO (sD s) (sN s) 6) ((sN s) + 1) ((sU s) + 2)) (some (sN s)) (4 : Int32) v2 hc) ?_
    rintro _ _ ⟨rfl, rfl⟩
    show X _ _ 44 [some (.inr (.inr (some 8))), some (.inl v1), some (.inl v2), some (.inr (.inr v3)), some (.inl v4)] [.inr (.inr (some (sN s))), .inl v4, .inr (.inr (gR (sD s) v3 1))] (hp (f_Ro_init (pQ s (nwO (sD s) (sN s) 6) ((sN s) + 1) ((sU s) + 2)) (some (sN s)) (4 : Int32) v2)) _
    show X _ _ 44 [some (.inr (.inr (some 8))), some (.inl v1), some (.inl v2), some (.inr (.inr v3)), some (.inl v4)] [.inr (.inr (some (sN s))), .inl v4, .inr (.inr (gR (sD s) v3 1))] (hp (f_Ro_init (pQ s (nwO (sD s) (sN s) 6) ((sN s) + 1) ((sU s) + 2)) (some (sN s)) (4 : Int32) v2)) _
    exact hlp.2 (f_Ro_init (pQ s (nwO (sD s) (sN s) 6) ((sN s) + 1) ((sU s) + 2)) (some (sN s)) (4 : Int32) v2) v1 v2 v3 v4 (some (sN s)) v4 (gR (sD s) v3 1) hw
def b_Op_makeGrid_44 (fu : Nat) (lp : LT_Op_makeGrid_33) (s : St) (v1 : Int32) (v2 : Int32) (v3 : Option Nat) (v4 : Int32) (w0 : Option Nat) (w1 : Int32) (w2 : Option Nat) : St := (lp.1 (pQ s (dR (sD s) w2 (va_up (aRF (sD s) w2) (Int32.toNatClampNeg w1) w0)) (sN s) (sU s)) v1 v2 v3 (v4 + Int32.ofInt (1)))
def v_Op_makeGrid_44 (fu : Nat) (lp : LT_Op_makeGrid_33) (wlp : LW_Op_makeGrid_33) (s : St) (v1 : Int32) (v2 : Int32) (v3 : Option Nat) (v4 : Int32) (w0 : Option Nat) (w1 : Int32) (w2 : Option Nat) : Prop := (isR (sD s) w2 ∧ (vp_in w1 (aRN (sD s) w2) ∧ (tho (sD s) w0 ∧ (wlp.1 (pQ s (dR (sD s) w2 (va_up (aRF (sD s) w2) (Int32.toNatClampNeg w1) w0)) (sN s) (sU s)) v1 v2 v3 (v4 + Int32.ofInt (1))))))
theorem cb_Op_makeGrid_44 {d : Nat} (fu : Nat) {lp : LT_Op_makeGrid_33} {wlp : LW_Op_makeGrid_33} (hlp : hl_Op_makeGrid_33 (d + 3) lp wlp) (s : St) (v1 : Int32) (v2 : Int32) (v3 : Option Nat) (v4 : Int32) (w0 : Option Nat) (w1 : Int32) (w2 : Option Nat) (hw : v_Op_makeGrid_44 fu lp wlp s v1 v2 v3 v4 w0 w1 w2) : X m_Op_makeGrid (d + 3) 44 [some (.inr (.inr (some 8))), some (.inl v1), some (.inl v2), some (.inr (.inr v3)), some (.inl v4)] [.inr (.inr w0), .inl w1, .inr (.inr w2)] (hp s) (qVs (b_Op_makeGrid_44 fu lp s v1 v2 v3 v4 w0 w1 w2)) := by
  unfold b_Op_makeGrid_44
  unfold v_Op_makeGrid_44 at hw
  obtain ⟨hc, hw⟩ := hw
  obtain ⟨hin, hw⟩ := hw
  obtain ⟨hv, hw⟩ := hw
  refine X_dsR rfl hc hin hv ?_
  show X _ _ 45 [some (.inr (.inr (some 8))), some (.inl v1), some (.inl v2), some (.inr (.inr v3)), some (.inl v4)] [] (hp (pQ s (dR (sD s) w2 (va_up (aRF (sD s) w2) (Int32.toNatClampNeg w1) w0)) (sN s) (sU s))) _
  refine X_run 2 (i1 := 33) (L1 := [some (.inr (.inr (some 8))), some (.inl v1), some (.inl v2), some (.inr (.inr v3)), some (.inl (v4 + Int32.ofInt (1)))]) (st1 := []) rfl ?_
  exact hlp.1 (pQ s (dR (sD s) w2 (va_up (aRF (sD s) w2) (Int32.toNatClampNeg w1) w0)) (sN s) (sU s)) v1 v2 v3 (v4 + Int32.ofInt (1)) hw
def T_Op_makeGrid_33 (fu : Nat) : Nat → LT_Op_makeGrid_33
  | 0 => (fun s _ _ _ _ => s, fun s _ _ _ _ _ _ _ => s)
  | n + 1 => (fun s v1 v2 v3 v4 => b_Op_makeGrid_33 fu (T_Op_makeGrid_33 fu n) s v1 v2 v3 v4, fun s v1 v2 v3 v4 w0 w1 w2 => b_Op_makeGrid_44 fu (T_Op_makeGrid_33 fu n) s v1 v2 v3 v4 w0 w1 w2)
def WT_Op_makeGrid_33 (fu : Nat) : Nat → LW_Op_makeGrid_33
  | 0 => (fun _ _ _ _ _ => False, fun _ _ _ _ _ _ _ _ => False)
  | n + 1 => (fun s v1 v2 v3 v4 => v_Op_makeGrid_33 fu (T_Op_makeGrid_33 fu n) (WT_Op_makeGrid_33 fu n) s v1 v2 v3 v4, fun s v1 v2 v3 v4 w0 w1 w2 => v_Op_makeGrid_44 fu (T_Op_makeGrid_33 fu n) (WT_Op_makeGrid_33 fu n) s v1 v2 v3 v4 w0 w1 w2)
theorem cT_Op_makeGrid_33 {d : Nat} (fu : Nat) : ∀ n : Nat, hl_Op_makeGrid_33 (d + 3) (T_Op_makeGrid_33 fu n) (WT_Op_makeGrid_33 fu n)
  | 0 => ⟨fun _ _ _ _ _ hw => hw.elim, fun _ _ _ _ _ _ _ _ hw => hw.elim⟩
  | n + 1 => ⟨fun s v1 v2 v3 v4 hw => cb_Op_makeGrid_33 fu (cT_Op_makeGrid_33 fu n) s v1 v2 v3 v4 hw, fun s v1 v2 v3 v4 w0 w1 w2 hw => cb_Op_makeGrid_44 fu (cT_Op_makeGrid_33 fu n) s v1 v2 v3 v4 w0 w1 w2 hw⟩
def t_Op_makeGrid_30 (fu : Nat) (s : St) (v1 : Int32) (v2 : Int32) (w0 : Option Nat) : St := ((T_Op_makeGrid_33 fu fu).1 s v1 v2 w0 (0 : Int32))
def w_Op_makeGrid_30 (fu : Nat) (s : St) (v1 : Int32) (v2 : Int32) (w0 : Option Nat) : Prop := ((WT_Op_makeGrid_33 fu fu).1 s v1 v2 w0 (0 : Int32))
theorem ct_Op_makeGrid_30 {d : Nat} (fu : Nat) (s : St) (v1 : Int32) (v2 : Int32) (w0 : Option Nat) (hw : w_Op_makeGrid_30 fu s v1 v2 w0) : X m_Op_makeGrid (d + 3) 30 [some (.inr (.inr (some 8))), some (.inl v1), some (.inl v2), none, none] [.inr (.inr w0)] (hp s) (qVs (t_Op_makeGrid_30 fu s v1 v2 w0)) := by
  unfold t_Op_makeGrid_30
  unfold w_Op_makeGrid_30 at hw
  refine X_run 3 (i1 := 33) (L1 := [some (.inr (.inr (some 8))), some (.inl v1), some (.inl v2), some (.inr (.inr w0)), some (.inl (0 : Int32))]) (st1 := []) rfl ?_
  exact (cT_Op_makeGrid_33 fu fu).1 s v1 v2 w0 (0 : Int32) hw
def t_Op_makeGrid_24 (fu : Nat) (s : St) (v1 : Int32) (v2 : Int32) (w0 : Int32) : St := (cond (cn1 .eq w0) s (t_Op_makeGrid_30 fu (f_Sh_init (pQ s (nwO (sD s) (sN s) 7) ((sN s) + 1) ((sU s) + 2)) (some (sN s)) (-1 : Int32) v1) v1 v2 (some (sN s))))
def w_Op_makeGrid_24 (fu : Nat) (s : St) (v1 : Int32) (v2 : Int32) (w0 : Int32) : Prop := ((cn1 .eq w0) = true → True) ∧ ((cn1 .eq w0) = false → (rm (sN s) (sU s) 2 ∧ (w_Sh_init (pQ s (nwO (sD s) (sN s) 7) ((sN s) + 1) ((sU s) + 2)) (some (sN s)) (-1 : Int32) v1 ∧ ((oC (nwO (sD s) (sN s) 7) (some (sN s))).isSome = true ∧ (w_Op_makeGrid_30 fu (f_Sh_init (pQ s (nwO (sD s) (sN s) 7) ((sN s) + 1) ((sU s) + 2)) (some (sN s)) (-1 : Int32) v1) v1 v2 (some (sN s)))))))
theorem ct_Op_makeGrid_24 {d : Nat} (fu : Nat) (s : St) (v1 : Int32) (v2 : Int32) (w0 : Int32) (hw : w_Op_makeGrid_24 fu s v1 v2 w0) : X m_Op_makeGrid (d + 3) 24 [some (.inr (.inr (some 8))), some (.inl v1), some (.inl v2), none, none] [.inl w0] (hp s) (qVs (t_Op_makeGrid_24 fu s v1 v2 w0)) := by
  unfold t_Op_makeGrid_24
  unfold w_Op_makeGrid_24 at hw
  refine X_run 1 (i1 := cond (cn1 .eq w0) 64 25) (L1 := [some (.inr (.inr (some 8))), some (.inl v1), some (.inl v2), none, none]) (st1 := []) rfl ?_
  refine X_brq (fun hb => ?_) (fun hb => ?_)
  · skip
    exact X_ret rfl rfl qVs_i
  · have hw := hw.2 hb
    obtain ⟨hr, hw⟩ := hw
    refine X_dnew rfl rfl rfl hr ?_
    show X _ _ 26 [some (.inr (.inr (some 8))), some (.inl v1), some (.inl v2), none, none] [.inr (.inr (some (sN s)))] (hp (pQ s (nwO (sD s) (sN s) 7) ((sN s) + 1) ((sU s) + 2))) _
    refine X_run 3 (i1 := 29) (L1 := [some (.inr (.inr (some 8))), some (.inl v1), some (.inl v2), none, none]) (st1 := [.inl v1, .inl (-1 : Int32), .inr (.inr (some (sN s))), .inr (.inr (some (sN s)))]) rfl ?_
    obtain ⟨hc, hw⟩ := hw
    obtain ⟨hr, hw⟩ := hw
    refine X_dcalln m_Sh_init (As := [.inl (-1 : Int32), .inl v1]) (st := [.inr (.inr (some (sN s)))]) ok_Sh_init rfl rfl rfl rfl hr (Nat.le_of_ble_eq_true rfl) (Nat.le_of_ble_eq_true rfl) (c_Sh_init (d := d) (pQ s (nwO (sD s) (sN s) 7) ((sN s) + 1) ((sU s) + 2)) (some (sN s)) (-1 : Int32) v1 hc) ?_
    rintro _ _ ⟨rfl, rfl⟩
    show X _ _ 30 [some (.inr (.inr (some 8))), some (.inl v1), some (.inl v2), none, none] [.inr (.inr (some (sN s)))] (hp (f_Sh_init (pQ s (nwO (sD s) (sN s) 7) ((sN s) + 1) ((sU s) + 2)) (some (sN s)) (-1 : Int32) v1)) _
    show X _ _ 30 [some (.inr (.inr (some 8))), some (.inl v1), some (.inl v2), none, none] [.inr (.inr (some (sN s)))] (hp (f_Sh_init (pQ s (nwO (sD s) (sN s) 7) ((sN s) + 1) ((sU s) + 2)) (some (sN s)) (-1 : Int32) v1)) _
    exact ct_Op_makeGrid_30 fu (f_Sh_init (pQ s (nwO (sD s) (sN s) 7) ((sN s) + 1) ((sU s) + 2)) (some (sN s)) (-1 : Int32) v1) v1 v2 (some (sN s)) hw
def t_Op_makeGrid_4 (fu : Nat) (s : St) : St := (f_Le_fault s (3 : Int32))
def w_Op_makeGrid_4 (fu : Nat) (s : St) : Prop := (w_Le_fault s (3 : Int32) ∧ True)
theorem ct_Op_makeGrid_4 {d : Nat} (fu : Nat) (s : St) (hw : w_Op_makeGrid_4 fu s) : X m_Op_makeGrid (d + 3) 4 [some (.inr (.inr (some 8))), none, none, none, none] [] (hp s) (qVs (t_Op_makeGrid_4 fu s)) := by
  unfold t_Op_makeGrid_4
  unfold w_Op_makeGrid_4 at hw
  refine X_run 1 (i1 := 5) (L1 := [some (.inr (.inr (some 8))), none, none, none, none]) (st1 := [.inr (.inr (some 8))]) rfl ?_
  refine X_gF (v := .inr (.inr (some 1))) rfl rfl rfl rfl ?_
  refine X_run 1 (i1 := 7) (L1 := [some (.inr (.inr (some 8))), none, none, none, none]) (st1 := [.inl (3 : Int32), .inr (.inr (some 1))]) rfl ?_
  obtain ⟨hc, hw⟩ := hw
  refine X_callv m_Le_fault (As := [.inl (3 : Int32)]) (st := []) ok_Le_fault rfl rfl rfl (hp_obj rfl) rfl (Nat.le_of_ble_eq_true rfl) (Nat.le_of_ble_eq_true rfl) (c_Le_fault (d := d + 1) s (3 : Int32) hc) ?_
  rintro _ _ ⟨rfl, rfl⟩
  show X _ _ 8 [some (.inr (.inr (some 8))), none, none, none, none] [] (hp (f_Le_fault s (3 : Int32))) _
  refine X_run 1 (i1 := 64) (L1 := [some (.inr (.inr (some 8))), none, none, none, none]) (st1 := []) rfl ?_
  exact X_ret rfl rfl qVs_i
def f_Op_makeGrid (fu : Nat) (s : St) (a0 : Int32) (a1 : Int32) : St := (cond (cn1 .lt a0) (t_Op_makeGrid_4 fu s) (cond (cn1 .ge a1) (t_Op_makeGrid_24 fu ((f_Le_make s (((1 : Int64) + (Int32.toInt64 a0)) + ((Int32.toInt64 a0) * ((1 : Int64) + (Int32.toInt64 a1))))).2) a0 a1 (b2i (f_Le_make s (((1 : Int64) + (Int32.toInt64 a0)) + ((Int32.toInt64 a0) * ((1 : Int64) + (Int32.toInt64 a1))))).1)) (t_Op_makeGrid_4 fu s)))
def w_Op_makeGrid (fu : Nat) (s : St) (a0 : Int32) (a1 : Int32) : Prop := ((cn1 .lt a0) = true → (w_Op_makeGrid_4 fu s)) ∧ ((cn1 .lt a0) = false → ((cn1 .ge a1) = true → (w_Le_make s (((1 : Int64) + (Int32.toInt64 a0)) + ((Int32.toInt64 a0) * ((1 : Int64) + (Int32.toInt64 a1)))) ∧ (w_Op_makeGrid_24 fu ((f_Le_make s (((1 : Int64) + (Int32.toInt64 a0)) + ((Int32.toInt64 a0) * ((1 : Int64) + (Int32.toInt64 a1))))).2) a0 a1 (b2i (f_Le_make s (((1 : Int64) + (Int32.toInt64 a0)) + ((Int32.toInt64 a0) * ((1 : Int64) + (Int32.toInt64 a1))))).1)))) ∧ ((cn1 .ge a1) = false → (w_Op_makeGrid_4 fu s)))
theorem c_Op_makeGrid {d : Nat} (fu : Nat) (s : St) (a0 : Int32) (a1 : Int32) (hw : w_Op_makeGrid fu s a0 a1) : X m_Op_makeGrid (d + 3) 0 (entL 5 [.inr (.inr (some 8)), .inl a0, .inl a1]) [] (hp s) (qVs (f_Op_makeGrid fu s a0 a1)) := by
  unfold f_Op_makeGrid
  unfold w_Op_makeGrid at hw
  refine X_run 2 (i1 := cond (cn1 .lt a0) 4 2) (L1 := [some (.inr (.inr (some 8))), some (.inl a0), some (.inl a1), none, none]) (st1 := []) rfl ?_
  refine X_brq (fun hb => ?_) (fun hb => ?_)
  · have hw := hw.1 hb
    refine X_mask [true, false, false, true, true] ?_
    exact ct_Op_makeGrid_4 fu s hw
  · have hw := hw.2 hb
    refine X_run 2 (i1 := cond (cn1 .ge a1) 9 4) (L1 := [some (.inr (.inr (some 8))), some (.inl a0), some (.inl a1), none, none]) (st1 := []) rfl ?_
    refine X_brq (fun hb => ?_) (fun hb => ?_)
    · have hw := hw.1 hb
      refine X_run 1 (i1 := 10) (L1 := [some (.inr (.inr (some 8))), some (.inl a0), some (.inl a1), none, none]) (st1 := [.inr (.inr (some 8))]) rfl ?_
      refine X_gF (v := .inr (.inr (some 1))) rfl rfl rfl rfl ?_
      refine X_run 12 (i1 := 23) (L1 := [some (.inr (.inr (some 8))), some (.inl a0), some (.inl a1), none, none]) (st1 := [.inr (.inl (((1 : Int64) + (Int32.toInt64 a0)) + ((Int32.toInt64 a0) * ((1 : Int64) + (Int32.toInt64 a1))))), .inr (.inr (some 1))]) rfl ?_
      obtain ⟨hc, hw⟩ := hw
      refine X_callv m_Le_make (As := [.inr (.inl (((1 : Int64) + (Int32.toInt64 a0)) + ((Int32.toInt64 a0) * ((1 : Int64) + (Int32.toInt64 a1)))))]) (st := []) ok_Le_make rfl rfl rfl (hp_obj rfl) rfl (Nat.le_of_ble_eq_true rfl) (Nat.le_of_ble_eq_true rfl) (c_Le_make (d := d + 2) s (((1 : Int64) + (Int32.toInt64 a0)) + ((Int32.toInt64 a0) * ((1 : Int64) + (Int32.toInt64 a1)))) hc) ?_
      rintro _ _ ⟨rfl, rfl⟩
      show X _ _ 24 [some (.inr (.inr (some 8))), some (.inl a0), some (.inl a1), none, none] [.inl (b2i (f_Le_make s (((1 : Int64) + (Int32.toInt64 a0)) + ((Int32.toInt64 a0) * ((1 : Int64) + (Int32.toInt64 a1))))).1)] (hp ((f_Le_make s (((1 : Int64) + (Int32.toInt64 a0)) + ((Int32.toInt64 a0) * ((1 : Int64) + (Int32.toInt64 a1))))).2)) _
      show X _ _ 24 [some (.inr (.inr (some 8))), some (.inl a0), some (.inl a1), none, none] [.inl (b2i (f_Le_make s (((1 : Int64) + (Int32.toInt64 a0)) + ((Int32.toInt64 a0) * ((1 : Int64) + (Int32.toInt64 a1))))).1)] (hp ((f_Le_make s (((1 : Int64) + (Int32.toInt64 a0)) + ((Int32.toInt64 a0) * ((1 : Int64) + (Int32.toInt64 a1))))).2)) _
      exact ct_Op_makeGrid_24 fu ((f_Le_make s (((1 : Int64) + (Int32.toInt64 a0)) + ((Int32.toInt64 a0) * ((1 : Int64) + (Int32.toInt64 a1))))).2) a0 a1 (b2i (f_Le_make s (((1 : Int64) + (Int32.toInt64 a0)) + ((Int32.toInt64 a0) * ((1 : Int64) + (Int32.toInt64 a1))))).1) hw
    · have hw := hw.2 hb
      refine X_mask [true, false, false, true, true] ?_
      exact ct_Op_makeGrid_4 fu s hw
def t_Op_makeBox_31 (s : St) (w0 : Int32) : St := s
def w_Op_makeBox_31 (s : St) (w0 : Int32) : Prop := True
theorem ct_Op_makeBox_31 {d : Nat} (s : St) (w0 : Int32) (hw : w_Op_makeBox_31 s w0) : X m_Op_makeBox (d + 3) 31 [none, none] [.inl w0] (hp s) (qVs (t_Op_makeBox_31 s w0)) := by
  unfold t_Op_makeBox_31
  unfold w_Op_makeBox_31 at hw
  refine X_run 1 (i1 := 32) (L1 := [none, none]) (st1 := []) rfl ?_
  exact X_ret rfl rfl qVs_i
def t_Op_makeBox_25 (s : St) (v1 : Int32) : St := (t_Op_makeBox_31 ((f_Le_burn s (f_Op_eighths (Int32.toInt64 v1))).2) (b2i (f_Le_burn s (f_Op_eighths (Int32.toInt64 v1))).1))
def w_Op_makeBox_25 (s : St) (v1 : Int32) : Prop := (w_Le_burn s (f_Op_eighths (Int32.toInt64 v1)) ∧ (w_Op_makeBox_31 ((f_Le_burn s (f_Op_eighths (Int32.toInt64 v1))).2) (b2i (f_Le_burn s (f_Op_eighths (Int32.toInt64 v1))).1)))
theorem ct_Op_makeBox_25 {d : Nat} (s : St) (v1 : Int32) (hw : w_Op_makeBox_25 s v1) : X m_Op_makeBox (d + 3) 25 [some (.inr (.inr (some 8))), some (.inl v1)] [] (hp s) (qVs (t_Op_makeBox_25 s v1)) := by
  unfold t_Op_makeBox_25
  unfold w_Op_makeBox_25 at hw
  refine X_run 1 (i1 := 26) (L1 := [some (.inr (.inr (some 8))), some (.inl v1)]) (st1 := [.inr (.inr (some 8))]) rfl ?_
  refine X_gF (v := .inr (.inr (some 1))) rfl rfl rfl rfl ?_
  refine X_run 2 (i1 := 29) (L1 := [some (.inr (.inr (some 8))), some (.inl v1)]) (st1 := [.inr (.inl (Int32.toInt64 v1)), .inr (.inr (some 1))]) rfl ?_
  refine X_calls m_Op_eighths (As := [.inr (.inl (Int32.toInt64 v1))]) (st := [.inr (.inr (some 1))]) ok_Op_eighths rfl rfl rfl (Nat.le_of_ble_eq_true rfl) (Nat.le_of_ble_eq_true rfl) (c_Op_eighths (d := d + 2) (Int32.toInt64 v1)) ?_
  rintro _ _ ⟨rfl, rfl⟩
  show X _ _ 30 [some (.inr (.inr (some 8))), some (.inl v1)] [.inr (.inl (f_Op_eighths (Int32.toInt64 v1))), .inr (.inr (some 1))] (hp s) _
  obtain ⟨hc, hw⟩ := hw
  refine X_callv m_Le_burn (As := [.inr (.inl (f_Op_eighths (Int32.toInt64 v1)))]) (st := []) ok_Le_burn rfl rfl rfl (hp_obj rfl) rfl (Nat.le_of_ble_eq_true rfl) (Nat.le_of_ble_eq_true rfl) (c_Le_burn (d := d + 2) s (f_Op_eighths (Int32.toInt64 v1)) hc) ?_
  rintro _ _ ⟨rfl, rfl⟩
  show X _ _ 31 [some (.inr (.inr (some 8))), some (.inl v1)] [.inl (b2i (f_Le_burn s (f_Op_eighths (Int32.toInt64 v1))).1)] (hp ((f_Le_burn s (f_Op_eighths (Int32.toInt64 v1))).2)) _
  show X _ _ 31 [some (.inr (.inr (some 8))), some (.inl v1)] [.inl (b2i (f_Le_burn s (f_Op_eighths (Int32.toInt64 v1))).1)] (hp ((f_Le_burn s (f_Op_eighths (Int32.toInt64 v1))).2)) _
  refine X_mask [false, false] ?_
  exact ct_Op_makeBox_31 ((f_Le_burn s (f_Op_eighths (Int32.toInt64 v1))).2) (b2i (f_Le_burn s (f_Op_eighths (Int32.toInt64 v1))).1) hw
def t_Op_makeBox_24 (s : St) (v1 : Int32) (w0 : Option Nat) (w1 : Int32) : St := (t_Op_makeBox_25 (f_Op_setSlot s w1 w0) v1)
def w_Op_makeBox_24 (s : St) (v1 : Int32) (w0 : Option Nat) (w1 : Int32) : Prop := (w_Op_setSlot s w1 w0 ∧ (w_Op_makeBox_25 (f_Op_setSlot s w1 w0) v1))
theorem ct_Op_makeBox_24 {d : Nat} (s : St) (v1 : Int32) (w0 : Option Nat) (w1 : Int32) (hw : w_Op_makeBox_24 s v1 w0 w1) : X m_Op_makeBox (d + 3) 24 [some (.inr (.inr (some 8))), some (.inl v1)] [.inr (.inr w0), .inl w1, .inr (.inr (some 8))] (hp s) (qVs (t_Op_makeBox_24 s v1 w0 w1)) := by
  unfold t_Op_makeBox_24
  unfold w_Op_makeBox_24 at hw
  obtain ⟨hc, hw⟩ := hw
  refine X_callv m_Op_setSlot (As := [.inl w1, .inr (.inr w0)]) (st := []) ok_Op_setSlot rfl rfl rfl (hp_obj rfl) rfl (Nat.le_of_ble_eq_true rfl) (Nat.le_of_ble_eq_true rfl) (c_Op_setSlot (d := d + 1) s w1 w0 hc) ?_
  rintro _ _ ⟨rfl, rfl⟩
  show X _ _ 25 [some (.inr (.inr (some 8))), some (.inl v1)] [] (hp (f_Op_setSlot s w1 w0)) _
  show X _ _ 25 [some (.inr (.inr (some 8))), some (.inl v1)] [] (hp (f_Op_setSlot s w1 w0)) _
  exact ct_Op_makeBox_25 (f_Op_setSlot s w1 w0) v1 hw
def t_Op_makeBox_14 (s : St) (v1 : Int32) (w0 : Int32) : St := (cond (cn1 .eq w0) s (t_Op_makeBox_24 (f_Sh_init (pQ s (nwO (sD s) (sN s) 7) ((sN s) + 1) ((sU s) + 2)) (some (sN s)) (f_Op_operand (pQ s (nwO (sD s) (sN s) 7) ((sN s) + 1) ((sU s) + 2)) (2 : Int32)) v1) v1 (some (sN s)) (1 : Int32)))
def w_Op_makeBox_14 (s : St) (v1 : Int32) (w0 : Int32) : Prop := ((cn1 .eq w0) = true → True) ∧ ((cn1 .eq w0) = false → (rm (sN s) (sU s) 2 ∧ (w_Op_operand (pQ s (nwO (sD s) (sN s) 7) ((sN s) + 1) ((sU s) + 2)) (2 : Int32) ∧ (w_Sh_init (pQ s (nwO (sD s) (sN s) 7) ((sN s) + 1) ((sU s) + 2)) (some (sN s)) (f_Op_operand (pQ s (nwO (sD s) (sN s) 7) ((sN s) + 1) ((sU s) + 2)) (2 : Int32)) v1 ∧ ((oC (nwO (sD s) (sN s) 7) (some (sN s))).isSome = true ∧ (w_Op_makeBox_24 (f_Sh_init (pQ s (nwO (sD s) (sN s) 7) ((sN s) + 1) ((sU s) + 2)) (some (sN s)) (f_Op_operand (pQ s (nwO (sD s) (sN s) 7) ((sN s) + 1) ((sU s) + 2)) (2 : Int32)) v1) v1 (some (sN s)) (1 : Int32)))))))
theorem ct_Op_makeBox_14 {d : Nat} (s : St) (v1 : Int32) (w0 : Int32) (hw : w_Op_makeBox_14 s v1 w0) : X m_Op_makeBox (d + 3) 14 [some (.inr (.inr (some 8))), some (.inl v1)] [.inl w0] (hp s) (qVs (t_Op_makeBox_14 s v1 w0)) := by
  unfold t_Op_makeBox_14
  unfold w_Op_makeBox_14 at hw
  refine X_run 1 (i1 := cond (cn1 .eq w0) 32 15) (L1 := [some (.inr (.inr (some 8))), some (.inl v1)]) (st1 := []) rfl ?_
  refine X_brq (fun hb => ?_) (fun hb => ?_)
  · skip
    exact X_ret rfl rfl qVs_i
  · have hw := hw.2 hb
    refine X_run 2 (i1 := 17) (L1 := [some (.inr (.inr (some 8))), some (.inl v1)]) (st1 := [.inl (1 : Int32), .inr (.inr (some 8))]) rfl ?_
    obtain ⟨hr, hw⟩ := hw
    refine X_dnew rfl rfl rfl hr ?_
    show X _ _ 18 [some (.inr (.inr (some 8))), some (.inl v1)] [.inr (.inr (some (sN s))), .inl (1 : Int32), .inr (.inr (some 8))] (hp (pQ s (nwO (sD s) (sN s) 7) ((sN s) + 1) ((sU s) + 2))) _
    refine X_run 3 (i1 := 21) (L1 := [some (.inr (.inr (some 8))), some (.inl v1)]) (st1 := [.inl (2 : Int32), .inr (.inr (some 8)), .inr (.inr (some (sN s))), .inr (.inr (some (sN s))), .inl (1 : Int32), .inr (.inr (some 8))]) rfl ?_
    obtain ⟨hc, hw⟩ := hw
    refine X_callv m_Op_operand (As := [.inl (2 : Int32)]) (st := [.inr (.inr (some (sN s))), .inr (.inr (some (sN s))), .inl (1 : Int32), .inr (.inr (some 8))]) ok_Op_operand rfl rfl rfl (hp_obj rfl) rfl (Nat.le_of_ble_eq_true rfl) (Nat.le_of_ble_eq_true rfl) (c_Op_operand (d := d + 2) (pQ s (nwO (sD s) (sN s) 7) ((sN s) + 1) ((sU s) + 2)) (2 : Int32) hc) ?_
    rintro _ _ ⟨rfl, rfl⟩
    show X _ _ 22 [some (.inr (.inr (some 8))), some (.inl v1)] [.inl (f_Op_operand (pQ s (nwO (sD s) (sN s) 7) ((sN s) + 1) ((sU s) + 2)) (2 : Int32)), .inr (.inr (some (sN s))), .inr (.inr (some (sN s))), .inl (1 : Int32), .inr (.inr (some 8))] (hp (pQ s (nwO (sD s) (sN s) 7) ((sN s) + 1) ((sU s) + 2))) _
    refine X_run 1 (i1 := 23) (L1 := [some (.inr (.inr (some 8))), some (.inl v1)]) (st1 := [.inl v1, .inl (f_Op_operand (pQ s (nwO (sD s) (sN s) 7) ((sN s) + 1) ((sU s) + 2)) (2 : Int32)), .inr (.inr (some (sN s))), .inr (.inr (some (sN s))), .inl (1 : Int32), .inr (.inr (some 8))]) rfl ?_
    obtain ⟨hc, hw⟩ := hw
    obtain ⟨hr, hw⟩ := hw
    refine X_dcalln m_Sh_init (As := [.inl (f_Op_operand (pQ s (nwO (sD s) (sN s) 7) ((sN s) + 1) ((sU s) + 2)) (2 : Int32)), .inl v1]) (st := [.inr (.inr (some (sN s))), .inl (1 : Int32), .inr (.inr (some 8))]) ok_Sh_init rfl rfl rfl rfl hr (Nat.le_of_ble_eq_true rfl) (Nat.le_of_ble_eq_true rfl) (c_Sh_init (d := d) (pQ s (nwO (sD s) (sN s) 7) ((sN s) + 1) ((sU s) + 2)) (some (sN s)) (f_Op_operand (pQ s (nwO (sD s) (sN s) 7) ((sN s) + 1) ((sU s) + 2)) (2 : Int32)) v1 hc) ?_
    rintro _ _ ⟨rfl, rfl⟩
    show X _ _ 24 [some (.inr (.inr (some 8))), some (.inl v1)] [.inr (.inr (some (sN s))), .inl (1 : Int32), .inr (.inr (some 8))] (hp (f_Sh_init (pQ s (nwO (sD s) (sN s) 7) ((sN s) + 1) ((sU s) + 2)) (some (sN s)) (f_Op_operand (pQ s (nwO (sD s) (sN s) 7) ((sN s) + 1) ((sU s) + 2)) (2 : Int32)) v1)) _
    show X _ _ 24 [some (.inr (.inr (some 8))), some (.inl v1)] [.inr (.inr (some (sN s))), .inl (1 : Int32), .inr (.inr (some 8))] (hp (f_Sh_init (pQ s (nwO (sD s) (sN s) 7) ((sN s) + 1) ((sU s) + 2)) (some (sN s)) (f_Op_operand (pQ s (nwO (sD s) (sN s) 7) ((sN s) + 1) ((sU s) + 2)) (2 : Int32)) v1)) _
    exact ct_Op_makeBox_24 (f_Sh_init (pQ s (nwO (sD s) (sN s) 7) ((sN s) + 1) ((sU s) + 2)) (some (sN s)) (f_Op_operand (pQ s (nwO (sD s) (sN s) 7) ((sN s) + 1) ((sU s) + 2)) (2 : Int32)) v1) v1 (some (sN s)) (1 : Int32) hw
def f_Op_makeBox (s : St) (a0 : Int32) : St := (cond (cn1 .ge a0) (t_Op_makeBox_14 ((f_Le_make s ((1 : Int64) + (Int32.toInt64 a0))).2) a0 (b2i (f_Le_make s ((1 : Int64) + (Int32.toInt64 a0))).1)) (f_Le_fault s (3 : Int32)))
def w_Op_makeBox (s : St) (a0 : Int32) : Prop := ((cn1 .ge a0) = true → (w_Le_make s ((1 : Int64) + (Int32.toInt64 a0)) ∧ (w_Op_makeBox_14 ((f_Le_make s ((1 : Int64) + (Int32.toInt64 a0))).2) a0 (b2i (f_Le_make s ((1 : Int64) + (Int32.toInt64 a0))).1)))) ∧ ((cn1 .ge a0) = false → (w_Le_fault s (3 : Int32) ∧ True))
theorem c_Op_makeBox {d : Nat} (s : St) (a0 : Int32) (hw : w_Op_makeBox s a0) : X m_Op_makeBox (d + 3) 0 (entL 2 [.inr (.inr (some 8)), .inl a0]) [] (hp s) (qVs (f_Op_makeBox s a0)) := by
  unfold f_Op_makeBox
  unfold w_Op_makeBox at hw
  refine X_run 2 (i1 := cond (cn1 .ge a0) 7 2) (L1 := [some (.inr (.inr (some 8))), some (.inl a0)]) (st1 := []) rfl ?_
  refine X_brq (fun hb => ?_) (fun hb => ?_)
  · have hw := hw.1 hb
    refine X_run 1 (i1 := 8) (L1 := [some (.inr (.inr (some 8))), some (.inl a0)]) (st1 := [.inr (.inr (some 8))]) rfl ?_
    refine X_gF (v := .inr (.inr (some 1))) rfl rfl rfl rfl ?_
    refine X_run 4 (i1 := 13) (L1 := [some (.inr (.inr (some 8))), some (.inl a0)]) (st1 := [.inr (.inl ((1 : Int64) + (Int32.toInt64 a0))), .inr (.inr (some 1))]) rfl ?_
    obtain ⟨hc, hw⟩ := hw
    refine X_callv m_Le_make (As := [.inr (.inl ((1 : Int64) + (Int32.toInt64 a0)))]) (st := []) ok_Le_make rfl rfl rfl (hp_obj rfl) rfl (Nat.le_of_ble_eq_true rfl) (Nat.le_of_ble_eq_true rfl) (c_Le_make (d := d + 2) s ((1 : Int64) + (Int32.toInt64 a0)) hc) ?_
    rintro _ _ ⟨rfl, rfl⟩
    show X _ _ 14 [some (.inr (.inr (some 8))), some (.inl a0)] [.inl (b2i (f_Le_make s ((1 : Int64) + (Int32.toInt64 a0))).1)] (hp ((f_Le_make s ((1 : Int64) + (Int32.toInt64 a0))).2)) _
    show X _ _ 14 [some (.inr (.inr (some 8))), some (.inl a0)] [.inl (b2i (f_Le_make s ((1 : Int64) + (Int32.toInt64 a0))).1)] (hp ((f_Le_make s ((1 : Int64) + (Int32.toInt64 a0))).2)) _
    exact ct_Op_makeBox_14 ((f_Le_make s ((1 : Int64) + (Int32.toInt64 a0))).2) a0 (b2i (f_Le_make s ((1 : Int64) + (Int32.toInt64 a0))).1) hw
  · have hw := hw.2 hb
    refine X_run 1 (i1 := 3) (L1 := [some (.inr (.inr (some 8))), some (.inl a0)]) (st1 := [.inr (.inr (some 8))]) rfl ?_
    refine X_gF (v := .inr (.inr (some 1))) rfl rfl rfl rfl ?_
    refine X_run 1 (i1 := 5) (L1 := [some (.inr (.inr (some 8))), some (.inl a0)]) (st1 := [.inl (3 : Int32), .inr (.inr (some 1))]) rfl ?_
    obtain ⟨hc, hw⟩ := hw
    refine X_callv m_Le_fault (As := [.inl (3 : Int32)]) (st := []) ok_Le_fault rfl rfl rfl (hp_obj rfl) rfl (Nat.le_of_ble_eq_true rfl) (Nat.le_of_ble_eq_true rfl) (c_Le_fault (d := d + 1) s (3 : Int32) hc) ?_
    rintro _ _ ⟨rfl, rfl⟩
    show X _ _ 6 [some (.inr (.inr (some 8))), some (.inl a0)] [] (hp (f_Le_fault s (3 : Int32))) _
    refine X_run 1 (i1 := 32) (L1 := [some (.inr (.inr (some 8))), some (.inl a0)]) (st1 := []) rfl ?_
    exact X_ret rfl rfl qVs_i
def t_Op_makePart_13 (s : St) (w0 : Option Nat) (w1 : Int32) : St := (f_Op_setSlot s w1 w0)
def w_Op_makePart_13 (s : St) (w0 : Option Nat) (w1 : Int32) : Prop := (w_Op_setSlot s w1 w0 ∧ True)
theorem ct_Op_makePart_13 {d : Nat} (s : St) (w0 : Option Nat) (w1 : Int32) (hw : w_Op_makePart_13 s w0 w1) : X m_Op_makePart (d + 3) 13 [none] [.inr (.inr w0), .inl w1, .inr (.inr (some 8))] (hp s) (qVs (t_Op_makePart_13 s w0 w1)) := by
  unfold t_Op_makePart_13
  unfold w_Op_makePart_13 at hw
  obtain ⟨hc, hw⟩ := hw
  refine X_callv m_Op_setSlot (As := [.inl w1, .inr (.inr w0)]) (st := []) ok_Op_setSlot rfl rfl rfl (hp_obj rfl) rfl (Nat.le_of_ble_eq_true rfl) (Nat.le_of_ble_eq_true rfl) (c_Op_setSlot (d := d + 1) s w1 w0 hc) ?_
  rintro _ _ ⟨rfl, rfl⟩
  show X _ _ 14 [none] [] (hp (f_Op_setSlot s w1 w0)) _
  exact X_ret rfl rfl qVs_i
def t_Op_makePart_4 (s : St) (w0 : Int32) : St := (cond (cn1 .eq w0) s (t_Op_makePart_13 (f_Pa_init (pQ s (nwO (sD s) (sN s) 4) ((sN s) + 1) ((sU s) + 5)) (some (sN s)) (f_Op_operand (pQ s (nwO (sD s) (sN s) 4) ((sN s) + 1) ((sU s) + 5)) (2 : Int32))) (some (sN s)) (1 : Int32)))
def w_Op_makePart_4 (s : St) (w0 : Int32) : Prop := ((cn1 .eq w0) = true → True) ∧ ((cn1 .eq w0) = false → (rm (sN s) (sU s) 5 ∧ (w_Op_operand (pQ s (nwO (sD s) (sN s) 4) ((sN s) + 1) ((sU s) + 5)) (2 : Int32) ∧ (w_Pa_init (pQ s (nwO (sD s) (sN s) 4) ((sN s) + 1) ((sU s) + 5)) (some (sN s)) (f_Op_operand (pQ s (nwO (sD s) (sN s) 4) ((sN s) + 1) ((sU s) + 5)) (2 : Int32)) ∧ ((oC (nwO (sD s) (sN s) 4) (some (sN s))).isSome = true ∧ (w_Op_makePart_13 (f_Pa_init (pQ s (nwO (sD s) (sN s) 4) ((sN s) + 1) ((sU s) + 5)) (some (sN s)) (f_Op_operand (pQ s (nwO (sD s) (sN s) 4) ((sN s) + 1) ((sU s) + 5)) (2 : Int32))) (some (sN s)) (1 : Int32)))))))
theorem ct_Op_makePart_4 {d : Nat} (s : St) (w0 : Int32) (hw : w_Op_makePart_4 s w0) : X m_Op_makePart (d + 3) 4 [some (.inr (.inr (some 8)))] [.inl w0] (hp s) (qVs (t_Op_makePart_4 s w0)) := by
  unfold t_Op_makePart_4
  unfold w_Op_makePart_4 at hw
  refine X_run 1 (i1 := cond (cn1 .eq w0) 14 5) (L1 := [some (.inr (.inr (some 8)))]) (st1 := []) rfl ?_
  refine X_brq (fun hb => ?_) (fun hb => ?_)
  · skip
    exact X_ret rfl rfl qVs_i
  · have hw := hw.2 hb
    refine X_run 2 (i1 := 7) (L1 := [some (.inr (.inr (some 8)))]) (st1 := [.inl (1 : Int32), .inr (.inr (some 8))]) rfl ?_
    obtain ⟨hr, hw⟩ := hw
    refine X_dnew rfl rfl rfl hr ?_
    show X _ _ 8 [some (.inr (.inr (some 8)))] [.inr (.inr (some (sN s))), .inl (1 : Int32), .inr (.inr (some 8))] (hp (pQ s (nwO (sD s) (sN s) 4) ((sN s) + 1) ((sU s) + 5))) _
    refine X_run 3 (i1 := 11) (L1 := [some (.inr (.inr (some 8)))]) (st1 := [.inl (2 : Int32), .inr (.inr (some 8)), .inr (.inr (some (sN s))), .inr (.inr (some (sN s))), .inl (1 : Int32), .inr (.inr (some 8))]) rfl ?_
    obtain ⟨hc, hw⟩ := hw
    refine X_callv m_Op_operand (As := [.inl (2 : Int32)]) (st := [.inr (.inr (some (sN s))), .inr (.inr (some (sN s))), .inl (1 : Int32), .inr (.inr (some 8))]) ok_Op_operand rfl rfl rfl (hp_obj rfl) rfl (Nat.le_of_ble_eq_true rfl) (Nat.le_of_ble_eq_true rfl) (c_Op_operand (d := d + 2) (pQ s (nwO (sD s) (sN s) 4) ((sN s) + 1) ((sU s) + 5)) (2 : Int32) hc) ?_
    rintro _ _ ⟨rfl, rfl⟩
    show X _ _ 12 [some (.inr (.inr (some 8)))] [.inl (f_Op_operand (pQ s (nwO (sD s) (sN s) 4) ((sN s) + 1) ((sU s) + 5)) (2 : Int32)), .inr (.inr (some (sN s))), .inr (.inr (some (sN s))), .inl (1 : Int32), .inr (.inr (some 8))] (hp (pQ s (nwO (sD s) (sN s) 4) ((sN s) + 1) ((sU s) + 5))) _
    obtain ⟨hc, hw⟩ := hw
    obtain ⟨hr, hw⟩ := hw
    refine X_dcalln m_Pa_init (As := [.inl (f_Op_operand (pQ s (nwO (sD s) (sN s) 4) ((sN s) + 1) ((sU s) + 5)) (2 : Int32))]) (st := [.inr (.inr (some (sN s))), .inl (1 : Int32), .inr (.inr (some 8))]) ok_Pa_init rfl rfl rfl rfl hr (Nat.le_of_ble_eq_true rfl) (Nat.le_of_ble_eq_true rfl) (c_Pa_init (d := d) (pQ s (nwO (sD s) (sN s) 4) ((sN s) + 1) ((sU s) + 5)) (some (sN s)) (f_Op_operand (pQ s (nwO (sD s) (sN s) 4) ((sN s) + 1) ((sU s) + 5)) (2 : Int32)) hc) ?_
    rintro _ _ ⟨rfl, rfl⟩
    show X _ _ 13 [some (.inr (.inr (some 8)))] [.inr (.inr (some (sN s))), .inl (1 : Int32), .inr (.inr (some 8))] (hp (f_Pa_init (pQ s (nwO (sD s) (sN s) 4) ((sN s) + 1) ((sU s) + 5)) (some (sN s)) (f_Op_operand (pQ s (nwO (sD s) (sN s) 4) ((sN s) + 1) ((sU s) + 5)) (2 : Int32)))) _
    show X _ _ 13 [some (.inr (.inr (some 8)))] [.inr (.inr (some (sN s))), .inl (1 : Int32), .inr (.inr (some 8))] (hp (f_Pa_init (pQ s (nwO (sD s) (sN s) 4) ((sN s) + 1) ((sU s) + 5)) (some (sN s)) (f_Op_operand (pQ s (nwO (sD s) (sN s) 4) ((sN s) + 1) ((sU s) + 5)) (2 : Int32)))) _
    refine X_mask [false] ?_
    exact ct_Op_makePart_13 (f_Pa_init (pQ s (nwO (sD s) (sN s) 4) ((sN s) + 1) ((sU s) + 5)) (some (sN s)) (f_Op_operand (pQ s (nwO (sD s) (sN s) 4) ((sN s) + 1) ((sU s) + 5)) (2 : Int32))) (some (sN s)) (1 : Int32) hw
def f_Op_makePart (s : St) : St := (t_Op_makePart_4 ((f_Le_make s (4 : Int64)).2) (b2i (f_Le_make s (4 : Int64)).1))
def w_Op_makePart (s : St) : Prop := (w_Le_make s (4 : Int64) ∧ (w_Op_makePart_4 ((f_Le_make s (4 : Int64)).2) (b2i (f_Le_make s (4 : Int64)).1)))
theorem c_Op_makePart {d : Nat} (s : St) (hw : w_Op_makePart s) : X m_Op_makePart (d + 3) 0 (entL 1 [.inr (.inr (some 8))]) [] (hp s) (qVs (f_Op_makePart s)) := by
  unfold f_Op_makePart
  unfold w_Op_makePart at hw
  refine X_run 1 (i1 := 1) (L1 := [some (.inr (.inr (some 8)))]) (st1 := [.inr (.inr (some 8))]) rfl ?_
  refine X_gF (v := .inr (.inr (some 1))) rfl rfl rfl rfl ?_
  refine X_run 1 (i1 := 3) (L1 := [some (.inr (.inr (some 8)))]) (st1 := [.inr (.inl (4 : Int64)), .inr (.inr (some 1))]) rfl ?_
  obtain ⟨hc, hw⟩ := hw
  refine X_callv m_Le_make (As := [.inr (.inl (4 : Int64))]) (st := []) ok_Le_make rfl rfl rfl (hp_obj rfl) rfl (Nat.le_of_ble_eq_true rfl) (Nat.le_of_ble_eq_true rfl) (c_Le_make (d := d + 2) s (4 : Int64) hc) ?_
  rintro _ _ ⟨rfl, rfl⟩
  show X _ _ 4 [some (.inr (.inr (some 8)))] [.inl (b2i (f_Le_make s (4 : Int64)).1)] (hp ((f_Le_make s (4 : Int64)).2)) _
  show X _ _ 4 [some (.inr (.inr (some 8)))] [.inl (b2i (f_Le_make s (4 : Int64)).1)] (hp ((f_Le_make s (4 : Int64)).2)) _
  exact ct_Op_makePart_4 ((f_Le_make s (4 : Int64)).2) (b2i (f_Le_make s (4 : Int64)).1) hw
def t_Op_makeTrouble_13 (s : St) (w0 : Option Nat) (w1 : Int32) : St := (f_Op_setSlot s w1 w0)
def w_Op_makeTrouble_13 (s : St) (w0 : Option Nat) (w1 : Int32) : Prop := (w_Op_setSlot s w1 w0 ∧ True)
theorem ct_Op_makeTrouble_13 {d : Nat} (s : St) (w0 : Option Nat) (w1 : Int32) (hw : w_Op_makeTrouble_13 s w0 w1) : X m_Op_makeTrouble (d + 3) 13 [none] [.inr (.inr w0), .inl w1, .inr (.inr (some 8))] (hp s) (qVs (t_Op_makeTrouble_13 s w0 w1)) := by
  unfold t_Op_makeTrouble_13
  unfold w_Op_makeTrouble_13 at hw
  obtain ⟨hc, hw⟩ := hw
  refine X_callv m_Op_setSlot (As := [.inl w1, .inr (.inr w0)]) (st := []) ok_Op_setSlot rfl rfl rfl (hp_obj rfl) rfl (Nat.le_of_ble_eq_true rfl) (Nat.le_of_ble_eq_true rfl) (c_Op_setSlot (d := d + 1) s w1 w0 hc) ?_
  rintro _ _ ⟨rfl, rfl⟩
  show X _ _ 14 [none] [] (hp (f_Op_setSlot s w1 w0)) _
  exact X_ret rfl rfl qVs_i
def t_Op_makeTrouble_4 (s : St) (w0 : Int32) : St := (cond (cn1 .eq w0) s (t_Op_makeTrouble_13 (f_Tr_init (pQ s (nwO (sD s) (sN s) 8) ((sN s) + 1) ((sU s) + 1)) (some (sN s)) (f_Op_numberAt (pQ s (nwO (sD s) (sN s) 8) ((sN s) + 1) ((sU s) + 1)) (2 : Int32))) (some (sN s)) (1 : Int32)))
def w_Op_makeTrouble_4 (s : St) (w0 : Int32) : Prop := ((cn1 .eq w0) = true → True) ∧ ((cn1 .eq w0) = false → (rm (sN s) (sU s) 1 ∧ (w_Op_numberAt (pQ s (nwO (sD s) (sN s) 8) ((sN s) + 1) ((sU s) + 1)) (2 : Int32) ∧ (w_Tr_init (pQ s (nwO (sD s) (sN s) 8) ((sN s) + 1) ((sU s) + 1)) (some (sN s)) (f_Op_numberAt (pQ s (nwO (sD s) (sN s) 8) ((sN s) + 1) ((sU s) + 1)) (2 : Int32)) ∧ ((oC (nwO (sD s) (sN s) 8) (some (sN s))).isSome = true ∧ (w_Op_makeTrouble_13 (f_Tr_init (pQ s (nwO (sD s) (sN s) 8) ((sN s) + 1) ((sU s) + 1)) (some (sN s)) (f_Op_numberAt (pQ s (nwO (sD s) (sN s) 8) ((sN s) + 1) ((sU s) + 1)) (2 : Int32))) (some (sN s)) (1 : Int32)))))))
theorem ct_Op_makeTrouble_4 {d : Nat} (s : St) (w0 : Int32) (hw : w_Op_makeTrouble_4 s w0) : X m_Op_makeTrouble (d + 3) 4 [some (.inr (.inr (some 8)))] [.inl w0] (hp s) (qVs (t_Op_makeTrouble_4 s w0)) := by
  unfold t_Op_makeTrouble_4
  unfold w_Op_makeTrouble_4 at hw
  refine X_run 1 (i1 := cond (cn1 .eq w0) 14 5) (L1 := [some (.inr (.inr (some 8)))]) (st1 := []) rfl ?_
  refine X_brq (fun hb => ?_) (fun hb => ?_)
  · skip
    exact X_ret rfl rfl qVs_i
  · have hw := hw.2 hb
    refine X_run 2 (i1 := 7) (L1 := [some (.inr (.inr (some 8)))]) (st1 := [.inl (1 : Int32), .inr (.inr (some 8))]) rfl ?_
    obtain ⟨hr, hw⟩ := hw
    refine X_dnew rfl rfl rfl hr ?_
    show X _ _ 8 [some (.inr (.inr (some 8)))] [.inr (.inr (some (sN s))), .inl (1 : Int32), .inr (.inr (some 8))] (hp (pQ s (nwO (sD s) (sN s) 8) ((sN s) + 1) ((sU s) + 1))) _
    refine X_run 3 (i1 := 11) (L1 := [some (.inr (.inr (some 8)))]) (st1 := [.inl (2 : Int32), .inr (.inr (some 8)), .inr (.inr (some (sN s))), .inr (.inr (some (sN s))), .inl (1 : Int32), .inr (.inr (some 8))]) rfl ?_
    obtain ⟨hc, hw⟩ := hw
    refine X_callv m_Op_numberAt (As := [.inl (2 : Int32)]) (st := [.inr (.inr (some (sN s))), .inr (.inr (some (sN s))), .inl (1 : Int32), .inr (.inr (some 8))]) ok_Op_numberAt rfl rfl rfl (hp_obj rfl) rfl (Nat.le_of_ble_eq_true rfl) (Nat.le_of_ble_eq_true rfl) (c_Op_numberAt (d := d + 1) (pQ s (nwO (sD s) (sN s) 8) ((sN s) + 1) ((sU s) + 1)) (2 : Int32) hc) ?_
    rintro _ _ ⟨rfl, rfl⟩
    show X _ _ 12 [some (.inr (.inr (some 8)))] [.inl (f_Op_numberAt (pQ s (nwO (sD s) (sN s) 8) ((sN s) + 1) ((sU s) + 1)) (2 : Int32)), .inr (.inr (some (sN s))), .inr (.inr (some (sN s))), .inl (1 : Int32), .inr (.inr (some 8))] (hp (pQ s (nwO (sD s) (sN s) 8) ((sN s) + 1) ((sU s) + 1))) _
    obtain ⟨hc, hw⟩ := hw
    obtain ⟨hr, hw⟩ := hw
    refine X_dcalln m_Tr_init (As := [.inl (f_Op_numberAt (pQ s (nwO (sD s) (sN s) 8) ((sN s) + 1) ((sU s) + 1)) (2 : Int32))]) (st := [.inr (.inr (some (sN s))), .inl (1 : Int32), .inr (.inr (some 8))]) ok_Tr_init rfl rfl rfl rfl hr (Nat.le_of_ble_eq_true rfl) (Nat.le_of_ble_eq_true rfl) (c_Tr_init (d := d) (pQ s (nwO (sD s) (sN s) 8) ((sN s) + 1) ((sU s) + 1)) (some (sN s)) (f_Op_numberAt (pQ s (nwO (sD s) (sN s) 8) ((sN s) + 1) ((sU s) + 1)) (2 : Int32)) hc) ?_
    rintro _ _ ⟨rfl, rfl⟩
    show X _ _ 13 [some (.inr (.inr (some 8)))] [.inr (.inr (some (sN s))), .inl (1 : Int32), .inr (.inr (some 8))] (hp (f_Tr_init (pQ s (nwO (sD s) (sN s) 8) ((sN s) + 1) ((sU s) + 1)) (some (sN s)) (f_Op_numberAt (pQ s (nwO (sD s) (sN s) 8) ((sN s) + 1) ((sU s) + 1)) (2 : Int32)))) _
    show X _ _ 13 [some (.inr (.inr (some 8)))] [.inr (.inr (some (sN s))), .inl (1 : Int32), .inr (.inr (some 8))] (hp (f_Tr_init (pQ s (nwO (sD s) (sN s) 8) ((sN s) + 1) ((sU s) + 1)) (some (sN s)) (f_Op_numberAt (pQ s (nwO (sD s) (sN s) 8) ((sN s) + 1) ((sU s) + 1)) (2 : Int32)))) _
    refine X_mask [false] ?_
    exact ct_Op_makeTrouble_13 (f_Tr_init (pQ s (nwO (sD s) (sN s) 8) ((sN s) + 1) ((sU s) + 1)) (some (sN s)) (f_Op_numberAt (pQ s (nwO (sD s) (sN s) 8) ((sN s) + 1) ((sU s) + 1)) (2 : Int32))) (some (sN s)) (1 : Int32) hw
def f_Op_makeTrouble (s : St) : St := (t_Op_makeTrouble_4 ((f_Le_make s (4 : Int64)).2) (b2i (f_Le_make s (4 : Int64)).1))
def w_Op_makeTrouble (s : St) : Prop := (w_Le_make s (4 : Int64) ∧ (w_Op_makeTrouble_4 ((f_Le_make s (4 : Int64)).2) (b2i (f_Le_make s (4 : Int64)).1)))
theorem c_Op_makeTrouble {d : Nat} (s : St) (hw : w_Op_makeTrouble s) : X m_Op_makeTrouble (d + 3) 0 (entL 1 [.inr (.inr (some 8))]) [] (hp s) (qVs (f_Op_makeTrouble s)) := by
  unfold f_Op_makeTrouble
  unfold w_Op_makeTrouble at hw
  refine X_run 1 (i1 := 1) (L1 := [some (.inr (.inr (some 8)))]) (st1 := [.inr (.inr (some 8))]) rfl ?_
  refine X_gF (v := .inr (.inr (some 1))) rfl rfl rfl rfl ?_
  refine X_run 1 (i1 := 3) (L1 := [some (.inr (.inr (some 8)))]) (st1 := [.inr (.inl (4 : Int64)), .inr (.inr (some 1))]) rfl ?_
  obtain ⟨hc, hw⟩ := hw
  refine X_callv m_Le_make (As := [.inr (.inl (4 : Int64))]) (st := []) ok_Le_make rfl rfl rfl (hp_obj rfl) rfl (Nat.le_of_ble_eq_true rfl) (Nat.le_of_ble_eq_true rfl) (c_Le_make (d := d + 2) s (4 : Int64) hc) ?_
  rintro _ _ ⟨rfl, rfl⟩
  show X _ _ 4 [some (.inr (.inr (some 8)))] [.inl (b2i (f_Le_make s (4 : Int64)).1)] (hp ((f_Le_make s (4 : Int64)).2)) _
  show X _ _ 4 [some (.inr (.inr (some 8)))] [.inl (b2i (f_Le_make s (4 : Int64)).1)] (hp ((f_Le_make s (4 : Int64)).2)) _
  exact ct_Op_makeTrouble_4 ((f_Le_make s (4 : Int64)).2) (b2i (f_Le_make s (4 : Int64)).1) hw
def t_Op_makeTwin_30 (fu : Nat) (s : St) (w0 : Int32) : St := s
def w_Op_makeTwin_30 (fu : Nat) (s : St) (w0 : Int32) : Prop := True
theorem ct_Op_makeTwin_30 {d : Nat} (fu : Nat) (s : St) (w0 : Int32) (hw : w_Op_makeTwin_30 fu s w0) : X m_Op_makeTwin (d + 4) 30 [none, none] [.inl w0] (hp s) (qVs (t_Op_makeTwin_30 fu s w0)) := by
  unfold t_Op_makeTwin_30
  unfold w_Op_makeTwin_30 at hw
  refine X_run 1 (i1 := 31) (L1 := [none, none]) (st1 := []) rfl ?_
  exact X_ret rfl rfl qVs_i
def t_Op_makeTwin_23 (fu : Nat) (s : St) (v1 : Option Nat) : St := (t_Op_makeTwin_30 fu ((f_Le_burn s (f_Op_eighths (Int32.toInt64 (u_size s v1)))).2) (b2i (f_Le_burn s (f_Op_eighths (Int32.toInt64 (u_size s v1)))).1))
def w_Op_makeTwin_23 (fu : Nat) (s : St) (v1 : Option Nat) : Prop := (wu_size s v1 ∧ (w_Le_burn s (f_Op_eighths (Int32.toInt64 (u_size s v1))) ∧ (w_Op_makeTwin_30 fu ((f_Le_burn s (f_Op_eighths (Int32.toInt64 (u_size s v1)))).2) (b2i (f_Le_burn s (f_Op_eighths (Int32.toInt64 (u_size s v1)))).1))))
theorem ct_Op_makeTwin_23 {d : Nat} (fu : Nat) (s : St) (v1 : Option Nat) (hw : w_Op_makeTwin_23 fu s v1) : X m_Op_makeTwin (d + 4) 23 [some (.inr (.inr (some 8))), some (.inr (.inr v1))] [] (hp s) (qVs (t_Op_makeTwin_23 fu s v1)) := by
  unfold t_Op_makeTwin_23
  unfold w_Op_makeTwin_23 at hw
  refine X_run 1 (i1 := 24) (L1 := [some (.inr (.inr (some 8))), some (.inr (.inr v1))]) (st1 := [.inr (.inr (some 8))]) rfl ?_
  refine X_gF (v := .inr (.inr (some 1))) rfl rfl rfl rfl ?_
  refine X_run 1 (i1 := 26) (L1 := [some (.inr (.inr (some 8))), some (.inr (.inr v1))]) (st1 := [.inr (.inr v1), .inr (.inr (some 1))]) rfl ?_
  obtain ⟨hc, hw⟩ := hw
  refine X_usize (d := d + 3) rfl (Nat.le_of_ble_eq_true rfl) hc ?_
  show X _ _ 27 [some (.inr (.inr (some 8))), some (.inr (.inr v1))] [.inl (u_size s v1), .inr (.inr (some 1))] (hp s) _
  refine X_run 1 (i1 := 28) (L1 := [some (.inr (.inr (some 8))), some (.inr (.inr v1))]) (st1 := [.inr (.inl (Int32.toInt64 (u_size s v1))), .inr (.inr (some 1))]) rfl ?_
  refine X_calls m_Op_eighths (As := [.inr (.inl (Int32.toInt64 (u_size s v1)))]) (st := [.inr (.inr (some 1))]) ok_Op_eighths rfl rfl rfl (Nat.le_of_ble_eq_true rfl) (Nat.le_of_ble_eq_true rfl) (c_Op_eighths (d := d + 3) (Int32.toInt64 (u_size s v1))) ?_
  rintro _ _ ⟨rfl, rfl⟩
  show X _ _ 29 [some (.inr (.inr (some 8))), some (.inr (.inr v1))] [.inr (.inl (f_Op_eighths (Int32.toInt64 (u_size s v1)))), .inr (.inr (some 1))] (hp s) _
  obtain ⟨hc, hw⟩ := hw
  refine X_callv m_Le_burn (As := [.inr (.inl (f_Op_eighths (Int32.toInt64 (u_size s v1))))]) (st := []) ok_Le_burn rfl rfl rfl (hp_obj rfl) rfl (Nat.le_of_ble_eq_true rfl) (Nat.le_of_ble_eq_true rfl) (c_Le_burn (d := d + 3) s (f_Op_eighths (Int32.toInt64 (u_size s v1))) hc) ?_
  rintro _ _ ⟨rfl, rfl⟩
  show X _ _ 30 [some (.inr (.inr (some 8))), some (.inr (.inr v1))] [.inl (b2i (f_Le_burn s (f_Op_eighths (Int32.toInt64 (u_size s v1)))).1)] (hp ((f_Le_burn s (f_Op_eighths (Int32.toInt64 (u_size s v1)))).2)) _
  show X _ _ 30 [some (.inr (.inr (some 8))), some (.inr (.inr v1))] [.inl (b2i (f_Le_burn s (f_Op_eighths (Int32.toInt64 (u_size s v1)))).1)] (hp ((f_Le_burn s (f_Op_eighths (Int32.toInt64 (u_size s v1)))).2)) _
  refine X_mask [false, false] ?_
  exact ct_Op_makeTwin_30 fu ((f_Le_burn s (f_Op_eighths (Int32.toInt64 (u_size s v1)))).2) (b2i (f_Le_burn s (f_Op_eighths (Int32.toInt64 (u_size s v1)))).1) hw
def t_Op_makeTwin_22 (fu : Nat) (s : St) (v1 : Option Nat) (w0 : Option Nat) (w1 : Int32) : St := (t_Op_makeTwin_23 fu (f_Op_setSlot s w1 w0) v1)
def w_Op_makeTwin_22 (fu : Nat) (s : St) (v1 : Option Nat) (w0 : Option Nat) (w1 : Int32) : Prop := (w_Op_setSlot s w1 w0 ∧ (w_Op_makeTwin_23 fu (f_Op_setSlot s w1 w0) v1))
theorem ct_Op_makeTwin_22 {d : Nat} (fu : Nat) (s : St) (v1 : Option Nat) (w0 : Option Nat) (w1 : Int32) (hw : w_Op_makeTwin_22 fu s v1 w0 w1) : X m_Op_makeTwin (d + 4) 22 [some (.inr (.inr (some 8))), some (.inr (.inr v1))] [.inr (.inr w0), .inl w1, .inr (.inr (some 8))] (hp s) (qVs (t_Op_makeTwin_22 fu s v1 w0 w1)) := by
  unfold t_Op_makeTwin_22
  unfold w_Op_makeTwin_22 at hw
  obtain ⟨hc, hw⟩ := hw
  refine X_callv m_Op_setSlot (As := [.inl w1, .inr (.inr w0)]) (st := []) ok_Op_setSlot rfl rfl rfl (hp_obj rfl) rfl (Nat.le_of_ble_eq_true rfl) (Nat.le_of_ble_eq_true rfl) (c_Op_setSlot (d := d + 2) s w1 w0 hc) ?_
  rintro _ _ ⟨rfl, rfl⟩
  show X _ _ 23 [some (.inr (.inr (some 8))), some (.inr (.inr v1))] [] (hp (f_Op_setSlot s w1 w0)) _
  show X _ _ 23 [some (.inr (.inr (some 8))), some (.inr (.inr v1))] [] (hp (f_Op_setSlot s w1 w0)) _
  exact ct_Op_makeTwin_23 fu (f_Op_setSlot s w1 w0) v1 hw
def t_Op_makeTwin_17 (fu : Nat) (s : St) (v1 : Option Nat) (w0 : Int32) : St := (cond (cn1 .eq w0) s (t_Op_makeTwin_22 fu ((u_twin fu s v1).2) v1 ((u_twin fu s v1).1) (1 : Int32)))
def w_Op_makeTwin_17 (fu : Nat) (s : St) (v1 : Option Nat) (w0 : Int32) : Prop := ((cn1 .eq w0) = true → True) ∧ ((cn1 .eq w0) = false → (wu_twin fu s v1 ∧ (w_Op_makeTwin_22 fu ((u_twin fu s v1).2) v1 ((u_twin fu s v1).1) (1 : Int32))))
theorem ct_Op_makeTwin_17 {d : Nat} (fu : Nat) (s : St) (v1 : Option Nat) (w0 : Int32) (hw : w_Op_makeTwin_17 fu s v1 w0) : X m_Op_makeTwin (d + 4) 17 [some (.inr (.inr (some 8))), some (.inr (.inr v1))] [.inl w0] (hp s) (qVs (t_Op_makeTwin_17 fu s v1 w0)) := by
  unfold t_Op_makeTwin_17
  unfold w_Op_makeTwin_17 at hw
  refine X_run 1 (i1 := cond (cn1 .eq w0) 31 18) (L1 := [some (.inr (.inr (some 8))), some (.inr (.inr v1))]) (st1 := []) rfl ?_
  refine X_brq (fun hb => ?_) (fun hb => ?_)
  · skip
    exact X_ret rfl rfl qVs_i
  · have hw := hw.2 hb
    refine X_run 3 (i1 := 21) (L1 := [some (.inr (.inr (some 8))), some (.inr (.inr v1))]) (st1 := [.inr (.inr v1), .inl (1 : Int32), .inr (.inr (some 8))]) rfl ?_
    obtain ⟨hc, hw⟩ := hw
    refine X_utwin (d := d) rfl (Nat.le_of_ble_eq_true rfl) hc ?_
    show X _ _ 22 [some (.inr (.inr (some 8))), some (.inr (.inr v1))] [.inr (.inr ((u_twin fu s v1).1)), .inl (1 : Int32), .inr (.inr (some 8))] (hp ((u_twin fu s v1).2)) _
    show X _ _ 22 [some (.inr (.inr (some 8))), some (.inr (.inr v1))] [.inr (.inr ((u_twin fu s v1).1)), .inl (1 : Int32), .inr (.inr (some 8))] (hp ((u_twin fu s v1).2)) _
    exact ct_Op_makeTwin_22 fu ((u_twin fu s v1).2) v1 ((u_twin fu s v1).1) (1 : Int32) hw
def t_Op_makeTwin_5 (fu : Nat) (s : St) (v1 : Option Nat) : St := (f_Op_miss s v1)
def w_Op_makeTwin_5 (fu : Nat) (s : St) (v1 : Option Nat) : Prop := (w_Op_miss s v1 ∧ True)
theorem ct_Op_makeTwin_5 {d : Nat} (fu : Nat) (s : St) (v1 : Option Nat) (hw : w_Op_makeTwin_5 fu s v1) : X m_Op_makeTwin (d + 4) 5 [some (.inr (.inr (some 8))), some (.inr (.inr v1))] [] (hp s) (qVs (t_Op_makeTwin_5 fu s v1)) := by
  unfold t_Op_makeTwin_5
  unfold w_Op_makeTwin_5 at hw
  refine X_run 2 (i1 := 7) (L1 := [some (.inr (.inr (some 8))), some (.inr (.inr v1))]) (st1 := [.inr (.inr v1), .inr (.inr (some 8))]) rfl ?_
  obtain ⟨hc, hw⟩ := hw
  refine X_callv m_Op_miss (As := [.inr (.inr v1)]) (st := []) ok_Op_miss rfl rfl rfl (hp_obj rfl) rfl (Nat.le_of_ble_eq_true rfl) (Nat.le_of_ble_eq_true rfl) (c_Op_miss (d := d + 1) s v1 hc) ?_
  rintro _ _ ⟨rfl, rfl⟩
  show X _ _ 8 [some (.inr (.inr (some 8))), some (.inr (.inr v1))] [] (hp (f_Op_miss s v1)) _
  refine X_run 1 (i1 := 31) (L1 := [some (.inr (.inr (some 8))), some (.inr (.inr v1))]) (st1 := []) rfl ?_
  exact X_ret rfl rfl qVs_i
def f_Op_makeTwin (fu : Nat) (s : St) (a0 : Option Nat) : St := (cond (Option.isNone a0) (t_Op_makeTwin_5 fu s a0) (cond (cn1 .ge (u_size s a0)) (t_Op_makeTwin_17 fu ((f_Le_make s ((1 : Int64) + (Int32.toInt64 (u_size s a0)))).2) a0 (b2i (f_Le_make s ((1 : Int64) + (Int32.toInt64 (u_size s a0)))).1)) (t_Op_makeTwin_5 fu s a0)))
def w_Op_makeTwin (fu : Nat) (s : St) (a0 : Option Nat) : Prop := ((Option.isNone a0) = true → (w_Op_makeTwin_5 fu s a0)) ∧ ((Option.isNone a0) = false → (wu_size s a0 ∧ ((cn1 .ge (u_size s a0)) = true → (wu_size s a0 ∧ (w_Le_make s ((1 : Int64) + (Int32.toInt64 (u_size s a0))) ∧ (w_Op_makeTwin_17 fu ((f_Le_make s ((1 : Int64) + (Int32.toInt64 (u_size s a0)))).2) a0 (b2i (f_Le_make s ((1 : Int64) + (Int32.toInt64 (u_size s a0)))).1))))) ∧ ((cn1 .ge (u_size s a0)) = false → (w_Op_makeTwin_5 fu s a0))))
theorem c_Op_makeTwin {d : Nat} (fu : Nat) (s : St) (a0 : Option Nat) (hw : w_Op_makeTwin fu s a0) : X m_Op_makeTwin (d + 4) 0 (entL 2 [.inr (.inr (some 8)), .inr (.inr a0)]) [] (hp s) (qVs (f_Op_makeTwin fu s a0)) := by
  unfold f_Op_makeTwin
  unfold w_Op_makeTwin at hw
  refine X_run 2 (i1 := cond (Option.isNone a0) 5 2) (L1 := [some (.inr (.inr (some 8))), some (.inr (.inr a0))]) (st1 := []) rfl ?_
  refine X_brq (fun hb => ?_) (fun hb => ?_)
  · have hw := hw.1 hb
    exact ct_Op_makeTwin_5 fu s a0 hw
  · have hw := hw.2 hb
    refine X_run 1 (i1 := 3) (L1 := [some (.inr (.inr (some 8))), some (.inr (.inr a0))]) (st1 := [.inr (.inr a0)]) rfl ?_
    obtain ⟨hc, hw⟩ := hw
    refine X_usize (d := d + 3) rfl (Nat.le_of_ble_eq_true rfl) hc ?_
    show X _ _ 4 [some (.inr (.inr (some 8))), some (.inr (.inr a0))] [.inl (u_size s a0)] (hp s) _
    refine X_run 1 (i1 := cond (cn1 .ge (u_size s a0)) 9 5) (L1 := [some (.inr (.inr (some 8))), some (.inr (.inr a0))]) (st1 := []) rfl ?_
    refine X_brq (fun hb => ?_) (fun hb => ?_)
    · have hw := hw.1 hb
      refine X_run 1 (i1 := 10) (L1 := [some (.inr (.inr (some 8))), some (.inr (.inr a0))]) (st1 := [.inr (.inr (some 8))]) rfl ?_
      refine X_gF (v := .inr (.inr (some 1))) rfl rfl rfl rfl ?_
      refine X_run 2 (i1 := 13) (L1 := [some (.inr (.inr (some 8))), some (.inr (.inr a0))]) (st1 := [.inr (.inr a0), .inr (.inl (1 : Int64)), .inr (.inr (some 1))]) rfl ?_
      obtain ⟨hc, hw⟩ := hw
      refine X_usize (d := d + 3) rfl (Nat.le_of_ble_eq_true rfl) hc ?_
      show X _ _ 14 [some (.inr (.inr (some 8))), some (.inr (.inr a0))] [.inl (u_size s a0), .inr (.inl (1 : Int64)), .inr (.inr (some 1))] (hp s) _
      refine X_run 2 (i1 := 16) (L1 := [some (.inr (.inr (some 8))), some (.inr (.inr a0))]) (st1 := [.inr (.inl ((1 : Int64) + (Int32.toInt64 (u_size s a0)))), .inr (.inr (some 1))]) rfl ?_
      obtain ⟨hc, hw⟩ := hw
      refine X_callv m_Le_make (As := [.inr (.inl ((1 : Int64) + (Int32.toInt64 (u_size s a0))))]) (st := []) ok_Le_make rfl rfl rfl (hp_obj rfl) rfl (Nat.le_of_ble_eq_true rfl) (Nat.le_of_ble_eq_true rfl) (c_Le_make (d := d + 3) s ((1 : Int64) + (Int32.toInt64 (u_size s a0))) hc) ?_
      rintro _ _ ⟨rfl, rfl⟩
      show X _ _ 17 [some (.inr (.inr (some 8))), some (.inr (.inr a0))] [.inl (b2i (f_Le_make s ((1 : Int64) + (Int32.toInt64 (u_size s a0)))).1)] (hp ((f_Le_make s ((1 : Int64) + (Int32.toInt64 (u_size s a0)))).2)) _
      show X _ _ 17 [some (.inr (.inr (some 8))), some (.inr (.inr a0))] [.inl (b2i (f_Le_make s ((1 : Int64) + (Int32.toInt64 (u_size s a0)))).1)] (hp ((f_Le_make s ((1 : Int64) + (Int32.toInt64 (u_size s a0)))).2)) _
      exact ct_Op_makeTwin_17 fu ((f_Le_make s ((1 : Int64) + (Int32.toInt64 (u_size s a0)))).2) a0 (b2i (f_Le_make s ((1 : Int64) + (Int32.toInt64 (u_size s a0)))).1) hw
    · have hw := hw.2 hb
      exact ct_Op_makeTwin_5 fu s a0 hw
def t_Op_countMembers_5 (s : St) (v1 : Option Nat) : St := (f_Op_miss s v1)
def w_Op_countMembers_5 (s : St) (v1 : Option Nat) : Prop := (w_Op_miss s v1 ∧ True)
theorem ct_Op_countMembers_5 {d : Nat} (s : St) (v1 : Option Nat) (hw : w_Op_countMembers_5 s v1) : X m_Op_countMembers (d + 3) 5 [some (.inr (.inr (some 8))), some (.inr (.inr v1))] [] (hp s) (qVs (t_Op_countMembers_5 s v1)) := by
  unfold t_Op_countMembers_5
  unfold w_Op_countMembers_5 at hw
  refine X_run 2 (i1 := 7) (L1 := [some (.inr (.inr (some 8))), some (.inr (.inr v1))]) (st1 := [.inr (.inr v1), .inr (.inr (some 8))]) rfl ?_
  obtain ⟨hc, hw⟩ := hw
  refine X_callv m_Op_miss (As := [.inr (.inr v1)]) (st := []) ok_Op_miss rfl rfl rfl (hp_obj rfl) rfl (Nat.le_of_ble_eq_true rfl) (Nat.le_of_ble_eq_true rfl) (c_Op_miss (d := d) s v1 hc) ?_
  rintro _ _ ⟨rfl, rfl⟩
  show X _ _ 8 [some (.inr (.inr (some 8))), some (.inr (.inr v1))] [] (hp (f_Op_miss s v1)) _
  refine X_run 1 (i1 := 14) (L1 := [some (.inr (.inr (some 8))), some (.inr (.inr v1))]) (st1 := []) rfl ?_
  exact X_ret rfl rfl qVs_i
def f_Op_countMembers (s : St) (a0 : Option Nat) : St := (cond (Option.isNone a0) (t_Op_countMembers_5 s a0) (cond (cn1 .ge (u_size s a0)) (f_Op_setNumber s (1 : Int32) (u_size s a0)) (t_Op_countMembers_5 s a0)))
def w_Op_countMembers (s : St) (a0 : Option Nat) : Prop := ((Option.isNone a0) = true → (w_Op_countMembers_5 s a0)) ∧ ((Option.isNone a0) = false → (wu_size s a0 ∧ ((cn1 .ge (u_size s a0)) = true → (wu_size s a0 ∧ (w_Op_setNumber s (1 : Int32) (u_size s a0) ∧ True))) ∧ ((cn1 .ge (u_size s a0)) = false → (w_Op_countMembers_5 s a0))))
theorem c_Op_countMembers {d : Nat} (s : St) (a0 : Option Nat) (hw : w_Op_countMembers s a0) : X m_Op_countMembers (d + 3) 0 (entL 2 [.inr (.inr (some 8)), .inr (.inr a0)]) [] (hp s) (qVs (f_Op_countMembers s a0)) := by
  unfold f_Op_countMembers
  unfold w_Op_countMembers at hw
  refine X_run 2 (i1 := cond (Option.isNone a0) 5 2) (L1 := [some (.inr (.inr (some 8))), some (.inr (.inr a0))]) (st1 := []) rfl ?_
  refine X_brq (fun hb => ?_) (fun hb => ?_)
  · have hw := hw.1 hb
    exact ct_Op_countMembers_5 s a0 hw
  · have hw := hw.2 hb
    refine X_run 1 (i1 := 3) (L1 := [some (.inr (.inr (some 8))), some (.inr (.inr a0))]) (st1 := [.inr (.inr a0)]) rfl ?_
    obtain ⟨hc, hw⟩ := hw
    refine X_usize (d := d + 2) rfl (Nat.le_of_ble_eq_true rfl) hc ?_
    show X _ _ 4 [some (.inr (.inr (some 8))), some (.inr (.inr a0))] [.inl (u_size s a0)] (hp s) _
    refine X_run 1 (i1 := cond (cn1 .ge (u_size s a0)) 9 5) (L1 := [some (.inr (.inr (some 8))), some (.inr (.inr a0))]) (st1 := []) rfl ?_
    refine X_brq (fun hb => ?_) (fun hb => ?_)
    · have hw := hw.1 hb
      refine X_run 3 (i1 := 12) (L1 := [some (.inr (.inr (some 8))), some (.inr (.inr a0))]) (st1 := [.inr (.inr a0), .inl (1 : Int32), .inr (.inr (some 8))]) rfl ?_
      obtain ⟨hc, hw⟩ := hw
      refine X_usize (d := d + 2) rfl (Nat.le_of_ble_eq_true rfl) hc ?_
      show X _ _ 13 [some (.inr (.inr (some 8))), some (.inr (.inr a0))] [.inl (u_size s a0), .inl (1 : Int32), .inr (.inr (some 8))] (hp s) _
      obtain ⟨hc, hw⟩ := hw
      refine X_callv m_Op_setNumber (As := [.inl (1 : Int32), .inl (u_size s a0)]) (st := []) ok_Op_setNumber rfl rfl rfl (hp_obj rfl) rfl (Nat.le_of_ble_eq_true rfl) (Nat.le_of_ble_eq_true rfl) (c_Op_setNumber (d := d + 1) s (1 : Int32) (u_size s a0) hc) ?_
      rintro _ _ ⟨rfl, rfl⟩
      show X _ _ 14 [some (.inr (.inr (some 8))), some (.inr (.inr a0))] [] (hp (f_Op_setNumber s (1 : Int32) (u_size s a0))) _
      exact X_ret rfl rfl qVs_i
    · have hw := hw.2 hb
      exact ct_Op_countMembers_5 s a0 hw
def t_Op_fits_36 (s : St) (v0 : Option Nat) (v1 : Int32) : Bool := (cond (cn2 .ne (u_kind s v0) v1) false true)
def w_Op_fits_36 (s : St) (v0 : Option Nat) (v1 : Int32) : Prop := (wu_kind s v0 ∧ True)
theorem ct_Op_fits_36 {d : Nat} (s : St) (v0 : Option Nat) (v1 : Int32) (hw : w_Op_fits_36 s v0 v1) : X m_Op_fits (d + 2) 36 [some (.inr (.inr v0)), some (.inl v1), none] [] (hp s) (qB (hp s) (t_Op_fits_36 s v0 v1)) := by
  unfold t_Op_fits_36
  unfold w_Op_fits_36 at hw
  refine X_run 1 (i1 := 37) (L1 := [some (.inr (.inr v0)), some (.inl v1), none]) (st1 := [.inr (.inr v0)]) rfl ?_
  obtain ⟨hc, hw⟩ := hw
  refine X_ukind (d := d + 1) rfl (Nat.le_of_ble_eq_true rfl) hc ?_
  show X _ _ 38 [some (.inr (.inr v0)), some (.inl v1), none] [.inl (u_kind s v0)] (hp s) _
  refine X_run 2 (i1 := cond (cn2 .ne (u_kind s v0) v1) 42 40) (L1 := [some (.inr (.inr v0)), some (.inl v1), none]) (st1 := []) rfl ?_
  refine X_brq (fun hb => ?_) (fun hb => ?_)
  · skip
    refine X_run 1 (i1 := 43) (L1 := [some (.inr (.inr v0)), some (.inl v1), none]) (st1 := [.inl (0 : Int32)]) rfl ?_
    exact X_zret rfl rfl (b2i_01 false) qB_i
  · skip
    refine X_run 2 (i1 := 43) (L1 := [some (.inr (.inr v0)), some (.inl v1), none]) (st1 := [.inl (1 : Int32)]) rfl ?_
    exact X_zret rfl rfl (b2i_01 true) qB_i
def f_Op_fits (s : St) (a0 : Option Nat) (a1 : Int32) : Bool := (cond (Option.isNone a0) (cond (cn1 .ne a1) false true) (cond (cn2 .ne a1 (19 : Int32)) (cond (cn2 .lt a1 (11 : Int32)) (t_Op_fits_36 s a0 a1) (cond (cn2 .ne a1 (16 : Int32)) (cond (cn1 .eq (b2i (isc (sD s) a0 0))) false (cond (cn2 .ne a1 (17 : Int32)) (cond (cn2 .ne a1 (18 : Int32)) (f_Pa_isBelow (gI (sD s) a0 0) (a1 - (11 : Int32))) (f_Pa_isPriced s a0)) (f_Pa_isWeighed s a0))) (t_Op_fits_36 s a0 a1))) (cond (cn1 .eq (b2i (isc (sD s) a0 2))) false (cond (cn2 .ne (f_Sh_kind s a0) (10 : Int32)) false (cond (cn1 .eq (b2i (f_Pa_isBelow (gI (sD s) a0 0) (1 : Int32)))) false true)))))
def w_Op_fits (s : St) (a0 : Option Nat) (a1 : Int32) : Prop := ((Option.isNone a0) = true → True) ∧ ((Option.isNone a0) = false → ((cn2 .ne a1 (19 : Int32)) = true → ((cn2 .lt a1 (11 : Int32)) = true → (w_Op_fits_36 s a0 a1)) ∧ ((cn2 .lt a1 (11 : Int32)) = false → ((cn2 .ne a1 (16 : Int32)) = true → (tho (sD s) a0 ∧ ((cn1 .eq (b2i (isc (sD s) a0 0))) = true → True) ∧ ((cn1 .eq (b2i (isc (sD s) a0 0))) = false → (cst (sD s) a0 0 ∧ ((cn2 .ne a1 (17 : Int32)) = true → ((cn2 .ne a1 (18 : Int32)) = true → (ob (sD s) a0 4 ∧ True)) ∧ ((cn2 .ne a1 (18 : Int32)) = false → (w_Pa_isPriced s a0 ∧ (oC (sD s) a0 = some 4 ∧ True)))) ∧ ((cn2 .ne a1 (17 : Int32)) = false → (w_Pa_isWeighed s a0 ∧ (oC (sD s) a0 = some 4 ∧ True))))))) ∧ ((cn2 .ne a1 (16 : Int32)) = false → (w_Op_fits_36 s a0 a1)))) ∧ ((cn2 .ne a1 (19 : Int32)) = false → (tho (sD s) a0 ∧ ((cn1 .eq (b2i (isc (sD s) a0 2))) = true → True) ∧ ((cn1 .eq (b2i (isc (sD s) a0 2))) = false → (cst (sD s) a0 2 ∧ (w_Sh_kind s a0 ∧ (oC (sD s) a0 = some 7 ∧ ((cn2 .ne (f_Sh_kind s a0) (10 : Int32)) = true → True) ∧ ((cn2 .ne (f_Sh_kind s a0) (10 : Int32)) = false → (ob (sD s) a0 7 ∧ True)))))))))
theorem c_Op_fits {d : Nat} (s : St) (a0 : Option Nat) (a1 : Int32) (hw : w_Op_fits s a0 a1) : X m_Op_fits (d + 2) 0 (entL 3 [.inr (.inr a0), .inl a1]) [] (hp s) (qB (hp s) (f_Op_fits s a0 a1)) := by
  unfold f_Op_fits
  unfold w_Op_fits at hw
  refine X_run 2 (i1 := cond (Option.isNone a0) 2 8) (L1 := [some (.inr (.inr a0)), some (.inl a1), none]) (st1 := []) rfl ?_
  refine X_brq (fun hb => ?_) (fun hb => ?_)
  · skip
    refine X_run 2 (i1 := cond (cn1 .ne a1) 6 4) (L1 := [some (.inr (.inr a0)), some (.inl a1), none]) (st1 := []) rfl ?_
    refine X_brq (fun hb => ?_) (fun hb => ?_)
    · skip
      refine X_run 1 (i1 := 7) (L1 := [some (.inr (.inr a0)), some (.inl a1), none]) (st1 := [.inl (0 : Int32)]) rfl ?_
      exact X_zret rfl rfl (b2i_01 false) qB_i
    · skip
      refine X_run 2 (i1 := 7) (L1 := [some (.inr (.inr a0)), some (.inl a1), none]) (st1 := [.inl (1 : Int32)]) rfl ?_
      exact X_zret rfl rfl (b2i_01 true) qB_i
  · have hw := hw.2 hb
    refine X_run 3 (i1 := cond (cn2 .ne a1 (19 : Int32)) 30 11) (L1 := [some (.inr (.inr a0)), some (.inl a1), none]) (st1 := []) rfl ?_
    refine X_brq (fun hb => ?_) (fun hb => ?_)
    · have hw := hw.1 hb
      refine X_run 3 (i1 := cond (cn2 .lt a1 (11 : Int32)) 36 33) (L1 := [some (.inr (.inr a0)), some (.inl a1), none]) (st1 := []) rfl ?_
      refine X_brq (fun hb => ?_) (fun hb => ?_)
      · have hw := hw.1 hb
        exact ct_Op_fits_36 s a0 a1 hw
      · have hw := hw.2 hb
        refine X_run 3 (i1 := cond (cn2 .ne a1 (16 : Int32)) 44 36) (L1 := [some (.inr (.inr a0)), some (.inl a1), none]) (st1 := []) rfl ?_
        refine X_brq (fun hb => ?_) (fun hb => ?_)
        · have hw := hw.1 hb
          refine X_run 1 (i1 := 45) (L1 := [some (.inr (.inr a0)), some (.inl a1), none]) (st1 := [.inr (.inr a0)]) rfl ?_
          obtain ⟨hc, hw⟩ := hw
          refine X_dinst rfl (by decide) hc ?_
          show X _ _ 46 [some (.inr (.inr a0)), some (.inl a1), none] [.inl (b2i (isc (sD s) a0 0))] (hp s) _
          refine X_run 1 (i1 := cond (cn1 .eq (b2i (isc (sD s) a0 0))) 69 47) (L1 := [some (.inr (.inr a0)), some (.inl a1), none]) (st1 := []) rfl ?_
          refine X_brq (fun hb => ?_) (fun hb => ?_)
          · skip
            refine X_run 1 (i1 := 70) (L1 := [some (.inr (.inr a0)), some (.inl a1), none]) (st1 := [.inl (0 : Int32)]) rfl ?_
            exact X_zret rfl rfl (b2i_01 false) qB_i
          · have hw := hw.2 hb
            refine X_run 1 (i1 := 48) (L1 := [some (.inr (.inr a0)), some (.inl a1), none]) (st1 := [.inr (.inr a0)]) rfl ?_
            obtain ⟨hc, hw⟩ := hw
            refine X_dcast rfl hc ?_
            refine X_run 4 (i1 := cond (cn2 .ne a1 (17 : Int32)) 56 53) (L1 := [some (.inr (.inr a0)), some (.inl a1), some (.inr (.inr a0))]) (st1 := []) rfl ?_
            refine X_brq (fun hb => ?_) (fun hb => ?_)
            · have hw := hw.1 hb
              refine X_run 3 (i1 := cond (cn2 .ne a1 (18 : Int32)) 62 59) (L1 := [some (.inr (.inr a0)), some (.inl a1), some (.inr (.inr a0))]) (st1 := []) rfl ?_
              refine X_brq (fun hb => ?_) (fun hb => ?_)
              · have hw := hw.1 hb
                refine X_run 1 (i1 := 63) (L1 := [some (.inr (.inr a0)), some (.inl a1), some (.inr (.inr a0))]) (st1 := [.inr (.inr a0)]) rfl ?_
                obtain ⟨hc, hw⟩ := hw
                refine X_dI rfl hc rfl ?_
                show X _ _ 64 [some (.inr (.inr a0)), some (.inl a1), some (.inr (.inr a0))] [.inl (gI (sD s) a0 0)] (hp s) _
                refine X_run 3 (i1 := 67) (L1 := [some (.inr (.inr a0)), some (.inl a1), some (.inr (.inr a0))]) (st1 := [.inl (a1 - (11 : Int32)), .inl (gI (sD s) a0 0)]) rfl ?_
                refine X_calls m_Pa_isBelow (As := [.inl (gI (sD s) a0 0), .inl (a1 - (11 : Int32))]) (st := []) ok_Pa_isBelow rfl rfl rfl (Nat.le_of_ble_eq_true rfl) (Nat.le_of_ble_eq_true rfl) (c_Pa_isBelow (d := d + 1) (gI (sD s) a0 0) (a1 - (11 : Int32))) ?_
                rintro _ _ ⟨rfl, rfl⟩
                show X _ _ 68 [some (.inr (.inr a0)), some (.inl a1), some (.inr (.inr a0))] [.inl (b2i (f_Pa_isBelow (gI (sD s) a0 0) (a1 - (11 : Int32))))] (hp s) _
                exact X_zret rfl rfl (b2i_01 (f_Pa_isBelow (gI (sD s) a0 0) (a1 - (11 : Int32)))) qB_i
              · have hw := hw.2 hb
                refine X_run 1 (i1 := 60) (L1 := [some (.inr (.inr a0)), some (.inl a1), some (.inr (.inr a0))]) (st1 := [.inr (.inr a0)]) rfl ?_
                obtain ⟨hc, hw⟩ := hw
                obtain ⟨hr, hw⟩ := hw
                refine X_dcallv m_Pa_isPriced (As := []) (st := []) ok_Pa_isPriced rfl rfl rfl hr rfl (Nat.le_of_ble_eq_true rfl) (Nat.le_of_ble_eq_true rfl) (c_Pa_isPriced (d := d) s a0 hc) ?_
                rintro _ _ ⟨rfl, rfl⟩
                show X _ _ 61 [some (.inr (.inr a0)), some (.inl a1), some (.inr (.inr a0))] [.inl (b2i (f_Pa_isPriced s a0))] (hp s) _
                refine X_run 1 (i1 := 68) (L1 := [some (.inr (.inr a0)), some (.inl a1), some (.inr (.inr a0))]) (st1 := [.inl (b2i (f_Pa_isPriced s a0))]) rfl ?_
                exact X_zret rfl rfl (b2i_01 (f_Pa_isPriced s a0)) qB_i
            · have hw := hw.2 hb
              refine X_run 1 (i1 := 54) (L1 := [some (.inr (.inr a0)), some (.inl a1), some (.inr (.inr a0))]) (st1 := [.inr (.inr a0)]) rfl ?_
              obtain ⟨hc, hw⟩ := hw
              obtain ⟨hr, hw⟩ := hw
              refine X_dcallv m_Pa_isWeighed (As := []) (st := []) ok_Pa_isWeighed rfl rfl rfl hr rfl (Nat.le_of_ble_eq_true rfl) (Nat.le_of_ble_eq_true rfl) (c_Pa_isWeighed (d := d + 1) s a0 hc) ?_
              rintro _ _ ⟨rfl, rfl⟩
              show X _ _ 55 [some (.inr (.inr a0)), some (.inl a1), some (.inr (.inr a0))] [.inl (b2i (f_Pa_isWeighed s a0))] (hp s) _
              refine X_run 1 (i1 := 68) (L1 := [some (.inr (.inr a0)), some (.inl a1), some (.inr (.inr a0))]) (st1 := [.inl (b2i (f_Pa_isWeighed s a0))]) rfl ?_
              exact X_zret rfl rfl (b2i_01 (f_Pa_isWeighed s a0)) qB_i
        · have hw := hw.2 hb
          exact ct_Op_fits_36 s a0 a1 hw
    · have hw := hw.2 hb
      refine X_run 1 (i1 := 12) (L1 := [some (.inr (.inr a0)), some (.inl a1), none]) (st1 := [.inr (.inr a0)]) rfl ?_
      obtain ⟨hc, hw⟩ := hw
      refine X_dinst rfl (by decide) hc ?_
      show X _ _ 13 [some (.inr (.inr a0)), some (.inl a1), none] [.inl (b2i (isc (sD s) a0 2))] (hp s) _
      refine X_run 1 (i1 := cond (cn1 .eq (b2i (isc (sD s) a0 2))) 28 14) (L1 := [some (.inr (.inr a0)), some (.inl a1), none]) (st1 := []) rfl ?_
      refine X_brq (fun hb => ?_) (fun hb => ?_)
      · skip
        refine X_run 1 (i1 := 29) (L1 := [some (.inr (.inr a0)), some (.inl a1), none]) (st1 := [.inl (0 : Int32)]) rfl ?_
        exact X_zret rfl rfl (b2i_01 false) qB_i
      · have hw := hw.2 hb
        refine X_run 1 (i1 := 15) (L1 := [some (.inr (.inr a0)), some (.inl a1), none]) (st1 := [.inr (.inr a0)]) rfl ?_
        obtain ⟨hc, hw⟩ := hw
        refine X_dcast rfl hc ?_
        refine X_run 2 (i1 := 18) (L1 := [some (.inr (.inr a0)), some (.inl a1), some (.inr (.inr a0))]) (st1 := [.inr (.inr a0)]) rfl ?_
        obtain ⟨hc, hw⟩ := hw
        obtain ⟨hr, hw⟩ := hw
        refine X_dcallv m_Sh_kind (As := []) (st := []) ok_Sh_kind rfl rfl rfl hr rfl (Nat.le_of_ble_eq_true rfl) (Nat.le_of_ble_eq_true rfl) (c_Sh_kind (d := d + 1) s a0 hc) ?_
        rintro _ _ ⟨rfl, rfl⟩
        show X _ _ 19 [some (.inr (.inr a0)), some (.inl a1), some (.inr (.inr a0))] [.inl (f_Sh_kind s a0)] (hp s) _
        refine X_run 2 (i1 := cond (cn2 .ne (f_Sh_kind s a0) (10 : Int32)) 28 21) (L1 := [some (.inr (.inr a0)), some (.inl a1), some (.inr (.inr a0))]) (st1 := []) rfl ?_
        refine X_brq (fun hb => ?_) (fun hb => ?_)
        · skip
          refine X_run 1 (i1 := 29) (L1 := [some (.inr (.inr a0)), some (.inl a1), some (.inr (.inr a0))]) (st1 := [.inl (0 : Int32)]) rfl ?_
          exact X_zret rfl rfl (b2i_01 false) qB_i
        · have hw := hw.2 hb
          refine X_run 1 (i1 := 22) (L1 := [some (.inr (.inr a0)), some (.inl a1), some (.inr (.inr a0))]) (st1 := [.inr (.inr a0)]) rfl ?_
          obtain ⟨hc, hw⟩ := hw
          refine X_dI rfl hc rfl ?_
          show X _ _ 23 [some (.inr (.inr a0)), some (.inl a1), some (.inr (.inr a0))] [.inl (gI (sD s) a0 0)] (hp s) _
          refine X_run 1 (i1 := 24) (L1 := [some (.inr (.inr a0)), some (.inl a1), some (.inr (.inr a0))]) (st1 := [.inl (1 : Int32), .inl (gI (sD s) a0 0)]) rfl ?_
          refine X_calls m_Pa_isBelow (As := [.inl (gI (sD s) a0 0), .inl (1 : Int32)]) (st := []) ok_Pa_isBelow rfl rfl rfl (Nat.le_of_ble_eq_true rfl) (Nat.le_of_ble_eq_true rfl) (c_Pa_isBelow (d := d + 1) (gI (sD s) a0 0) (1 : Int32)) ?_
          rintro _ _ ⟨rfl, rfl⟩
          show X _ _ 25 [some (.inr (.inr a0)), some (.inl a1), some (.inr (.inr a0))] [.inl (b2i (f_Pa_isBelow (gI (sD s) a0 0) (1 : Int32)))] (hp s) _
          refine X_run 1 (i1 := cond (cn1 .eq (b2i (f_Pa_isBelow (gI (sD s) a0 0) (1 : Int32)))) 28 26) (L1 := [some (.inr (.inr a0)), some (.inl a1), some (.inr (.inr a0))]) (st1 := []) rfl ?_
          refine X_brq (fun hb => ?_) (fun hb => ?_)
          · skip
            refine X_run 1 (i1 := 29) (L1 := [some (.inr (.inr a0)), some (.inl a1), some (.inr (.inr a0))]) (st1 := [.inl (0 : Int32)]) rfl ?_
            exact X_zret rfl rfl (b2i_01 false) qB_i
          · skip
            refine X_run 2 (i1 := 29) (L1 := [some (.inr (.inr a0)), some (.inl a1), some (.inr (.inr a0))]) (st1 := [.inl (1 : Int32)]) rfl ?_
            exact X_zret rfl rfl (b2i_01 true) qB_i
def t_Op_takeMember_24 (s : St) (v2 : Int32) (v3 : Int32) (v4 : Option Nat) (w0 : Int32) : St := (cond (cn1 .eq w0) s (cond (cn2 .ne v3 (6 : Int32)) (cond (cn2 .ne v3 (7 : Int32)) (f_Op_setNumber s (2 : Int32) (Int64.toInt32 (aLF (sD s) (gR (sD s) v4 1) (Int32.toNatClampNeg v2)))) (f_Op_setReal s (2 : Int32) (aLF (sD s) (gR (sD s) v4 1) (Int32.toNatClampNeg v2)))) (f_Op_setReal s (2 : Int32) (f_Re_ofFloat (Int64.toInt32 (aLF (sD s) (gR (sD s) v4 1) (Int32.toNatClampNeg v2)))))))
def w_Op_takeMember_24 (s : St) (v2 : Int32) (v3 : Int32) (v4 : Option Nat) (w0 : Int32) : Prop := ((cn1 .eq w0) = true → True) ∧ ((cn1 .eq w0) = false → ((cn2 .ne v3 (6 : Int32)) = true → ((cn2 .ne v3 (7 : Int32)) = true → (ob (sD s) v4 6 ∧ (isL (sD s) (gR (sD s) v4 1) ∧ (vp_in v2 (aLN (sD s) (gR (sD s) v4 1)) ∧ (w_Op_setNumber s (2 : Int32) (Int64.toInt32 (aLF (sD s) (gR (sD s) v4 1) (Int32.toNatClampNeg v2))) ∧ True))))) ∧ ((cn2 .ne v3 (7 : Int32)) = false → (ob (sD s) v4 6 ∧ (isL (sD s) (gR (sD s) v4 1) ∧ (vp_in v2 (aLN (sD s) (gR (sD s) v4 1)) ∧ (w_Op_setReal s (2 : Int32) (aLF (sD s) (gR (sD s) v4 1) (Int32.toNatClampNeg v2)) ∧ True)))))) ∧ ((cn2 .ne v3 (6 : Int32)) = false → (ob (sD s) v4 6 ∧ (isL (sD s) (gR (sD s) v4 1) ∧ (vp_in v2 (aLN (sD s) (gR (sD s) v4 1)) ∧ (w_Op_setReal s (2 : Int32) (f_Re_ofFloat (Int64.toInt32 (aLF (sD s) (gR (sD s) v4 1) (Int32.toNatClampNeg v2)))) ∧ True))))))
theorem ct_Op_takeMember_24 {d : Nat} (s : St) (v2 : Int32) (v3 : Int32) (v4 : Option Nat) (w0 : Int32) (hw : w_Op_takeMember_24 s v2 v3 v4 w0) : X m_Op_takeMember (d + 3) 24 [some (.inr (.inr (some 8))), none, some (.inl v2), some (.inl v3), some (.inr (.inr v4))] [.inl w0] (hp s) (qVs (t_Op_takeMember_24 s v2 v3 v4 w0)) := by
  unfold t_Op_takeMember_24
  unfold w_Op_takeMember_24 at hw
  refine X_run 1 (i1 := cond (cn1 .eq w0) 57 25) (L1 := [some (.inr (.inr (some 8))), none, some (.inl v2), some (.inl v3), some (.inr (.inr v4))]) (st1 := []) rfl ?_
  refine X_brq (fun hb => ?_) (fun hb => ?_)
  · skip
    exact X_ret rfl rfl qVs_i
  · have hw := hw.2 hb
    refine X_run 3 (i1 := cond (cn2 .ne v3 (6 : Int32)) 38 28) (L1 := [some (.inr (.inr (some 8))), none, some (.inl v2), some (.inl v3), some (.inr (.inr v4))]) (st1 := []) rfl ?_
    refine X_brq (fun hb => ?_) (fun hb => ?_)
    · have hw := hw.1 hb
      refine X_run 3 (i1 := cond (cn2 .ne v3 (7 : Int32)) 49 41) (L1 := [some (.inr (.inr (some 8))), none, some (.inl v2), some (.inl v3), some (.inr (.inr v4))]) (st1 := []) rfl ?_
      refine X_brq (fun hb => ?_) (fun hb => ?_)
      · have hw := hw.1 hb
        refine X_run 3 (i1 := 52) (L1 := [some (.inr (.inr (some 8))), none, some (.inl v2), some (.inl v3), some (.inr (.inr v4))]) (st1 := [.inr (.inr v4), .inl (2 : Int32), .inr (.inr (some 8))]) rfl ?_
        obtain ⟨hc, hw⟩ := hw
        refine X_dR rfl hc rfl ?_
        show X _ _ 53 [some (.inr (.inr (some 8))), none, some (.inl v2), some (.inl v3), some (.inr (.inr v4))] [.inr (.inr (gR (sD s) v4 1)), .inl (2 : Int32), .inr (.inr (some 8))] (hp s) _
        refine X_run 1 (i1 := 54) (L1 := [some (.inr (.inr (some 8))), none, some (.inl v2), some (.inl v3), some (.inr (.inr v4))]) (st1 := [.inl v2, .inr (.inr (gR (sD s) v4 1)), .inl (2 : Int32), .inr (.inr (some 8))]) rfl ?_
        obtain ⟨hc, hw⟩ := hw
        obtain ⟨hin, hw⟩ := hw
        refine X_daL rfl hc hin ?_
        show X _ _ 55 [some (.inr (.inr (some 8))), none, some (.inl v2), some (.inl v3), some (.inr (.inr v4))] [.inr (.inl (aLF (sD s) (gR (sD s) v4 1) (Int32.toNatClampNeg v2))), .inl (2 : Int32), .inr (.inr (some 8))] (hp s) _
        refine X_run 1 (i1 := 56) (L1 := [some (.inr (.inr (some 8))), none, some (.inl v2), some (.inl v3), some (.inr (.inr v4))]) (st1 := [.inl (Int64.toInt32 (aLF (sD s) (gR (sD s) v4 1) (Int32.toNatClampNeg v2))), .inl (2 : Int32), .inr (.inr (some 8))]) rfl ?_
        obtain ⟨hc, hw⟩ := hw
        refine X_callv m_Op_setNumber (As := [.inl (2 : Int32), .inl (Int64.toInt32 (aLF (sD s) (gR (sD s) v4 1) (Int32.toNatClampNeg v2)))]) (st := []) ok_Op_setNumber rfl rfl rfl (hp_obj rfl) rfl (Nat.le_of_ble_eq_true rfl) (Nat.le_of_ble_eq_true rfl) (c_Op_setNumber (d := d + 1) s (2 : Int32) (Int64.toInt32 (aLF (sD s) (gR (sD s) v4 1) (Int32.toNatClampNeg v2))) hc) ?_
        rintro _ _ ⟨rfl, rfl⟩
        show X _ _ 57 [some (.inr (.inr (some 8))), none, some (.inl v2), some (.inl v3), some (.inr (.inr v4))] [] (hp (f_Op_setNumber s (2 : Int32) (Int64.toInt32 (aLF (sD s) (gR (sD s) v4 1) (Int32.toNatClampNeg v2))))) _
        exact X_ret rfl rfl qVs_i
      · have hw := hw.2 hb
        refine X_run 3 (i1 := 44) (L1 := [some (.inr (.inr (some 8))), none, some (.inl v2), some (.inl v3), some (.inr (.inr v4))]) (st1 := [.inr (.inr v4), .inl (2 : Int32), .inr (.inr (some 8))]) rfl ?_
        obtain ⟨hc, hw⟩ := hw
        refine X_dR rfl hc rfl ?_
        show X _ _ 45 [some (.inr (.inr (some 8))), none, some (.inl v2), some (.inl v3), some (.inr (.inr v4))] [.inr (.inr (gR (sD s) v4 1)), .inl (2 : Int32), .inr (.inr (some 8))] (hp s) _
        refine X_run 1 (i1 := 46) (L1 := [some (.inr (.inr (some 8))), none, some (.inl v2), some (.inl v3), some (.inr (.inr v4))]) (st1 := [.inl v2, .inr (.inr (gR (sD s) v4 1)), .inl (2 : Int32), .inr (.inr (some 8))]) rfl ?_
        obtain ⟨hc, hw⟩ := hw
        obtain ⟨hin, hw⟩ := hw
        refine X_daL rfl hc hin ?_
        show X _ _ 47 [some (.inr (.inr (some 8))), none, some (.inl v2), some (.inl v3), some (.inr (.inr v4))] [.inr (.inl (aLF (sD s) (gR (sD s) v4 1) (Int32.toNatClampNeg v2))), .inl (2 : Int32), .inr (.inr (some 8))] (hp s) _
        obtain ⟨hc, hw⟩ := hw
        refine X_callv m_Op_setReal (As := [.inl (2 : Int32), .inr (.inl (aLF (sD s) (gR (sD s) v4 1) (Int32.toNatClampNeg v2)))]) (st := []) ok_Op_setReal rfl rfl rfl (hp_obj rfl) rfl (Nat.le_of_ble_eq_true rfl) (Nat.le_of_ble_eq_true rfl) (c_Op_setReal (d := d + 1) s (2 : Int32) (aLF (sD s) (gR (sD s) v4 1) (Int32.toNatClampNeg v2)) hc) ?_
        rintro _ _ ⟨rfl, rfl⟩
        show X _ _ 48 [some (.inr (.inr (some 8))), none, some (.inl v2), some (.inl v3), some (.inr (.inr v4))] [] (hp (f_Op_setReal s (2 : Int32) (aLF (sD s) (gR (sD s) v4 1) (Int32.toNatClampNeg v2)))) _
        refine X_run 1 (i1 := 57) (L1 := [some (.inr (.inr (some 8))), none, some (.inl v2), some (.inl v3), some (.inr (.inr v4))]) (st1 := []) rfl ?_
        exact X_ret rfl rfl qVs_i
    · have hw := hw.2 hb
      refine X_run 3 (i1 := 31) (L1 := [some (.inr (.inr (some 8))), none, some (.inl v2), some (.inl v3), some (.inr (.inr v4))]) (st1 := [.inr (.inr v4), .inl (2 : Int32), .inr (.inr (some 8))]) rfl ?_
      obtain ⟨hc, hw⟩ := hw
      refine X_dR rfl hc rfl ?_
      show X _ _ 32 [some (.inr (.inr (some 8))), none, some (.inl v2), some (.inl v3), some (.inr (.inr v4))] [.inr (.inr (gR (sD s) v4 1)), .inl (2 : Int32), .inr (.inr (some 8))] (hp s) _
      refine X_run 1 (i1 := 33) (L1 := [some (.inr (.inr (some 8))), none, some (.inl v2), some (.inl v3), some (.inr (.inr v4))]) (st1 := [.inl v2, .inr (.inr (gR (sD s) v4 1)), .inl (2 : Int32), .inr (.inr (some 8))]) rfl ?_
      obtain ⟨hc, hw⟩ := hw
      obtain ⟨hin, hw⟩ := hw
      refine X_daL rfl hc hin ?_
      show X _ _ 34 [some (.inr (.inr (some 8))), none, some (.inl v2), some (.inl v3), some (.inr (.inr v4))] [.inr (.inl (aLF (sD s) (gR (sD s) v4 1) (Int32.toNatClampNeg v2))), .inl (2 : Int32), .inr (.inr (some 8))] (hp s) _
      refine X_run 1 (i1 := 35) (L1 := [some (.inr (.inr (some 8))), none, some (.inl v2), some (.inl v3), some (.inr (.inr v4))]) (st1 := [.inl (Int64.toInt32 (aLF (sD s) (gR (sD s) v4 1) (Int32.toNatClampNeg v2))), .inl (2 : Int32), .inr (.inr (some 8))]) rfl ?_
      refine X_calls m_Re_ofFloat (As := [.inl (Int64.toInt32 (aLF (sD s) (gR (sD s) v4 1) (Int32.toNatClampNeg v2)))]) (st := [.inl (2 : Int32), .inr (.inr (some 8))]) ok_Re_ofFloat rfl rfl rfl (Nat.le_of_ble_eq_true rfl) (Nat.le_of_ble_eq_true rfl) (c_Re_ofFloat (d := d + 1) (Int64.toInt32 (aLF (sD s) (gR (sD s) v4 1) (Int32.toNatClampNeg v2)))) ?_
      rintro _ _ ⟨rfl, rfl⟩
      show X _ _ 36 [some (.inr (.inr (some 8))), none, some (.inl v2), some (.inl v3), some (.inr (.inr v4))] [.inr (.inl (f_Re_ofFloat (Int64.toInt32 (aLF (sD s) (gR (sD s) v4 1) (Int32.toNatClampNeg v2))))), .inl (2 : Int32), .inr (.inr (some 8))] (hp s) _
      obtain ⟨hc, hw⟩ := hw
      refine X_callv m_Op_setReal (As := [.inl (2 : Int32), .inr (.inl (f_Re_ofFloat (Int64.toInt32 (aLF (sD s) (gR (sD s) v4 1) (Int32.toNatClampNeg v2)))))]) (st := []) ok_Op_setReal rfl rfl rfl (hp_obj rfl) rfl (Nat.le_of_ble_eq_true rfl) (Nat.le_of_ble_eq_true rfl) (c_Op_setReal (d := d + 1) s (2 : Int32) (f_Re_ofFloat (Int64.toInt32 (aLF (sD s) (gR (sD s) v4 1) (Int32.toNatClampNeg v2)))) hc) ?_
      rintro _ _ ⟨rfl, rfl⟩
      show X _ _ 37 [some (.inr (.inr (some 8))), none, some (.inl v2), some (.inl v3), some (.inr (.inr v4))] [] (hp (f_Op_setReal s (2 : Int32) (f_Re_ofFloat (Int64.toInt32 (aLF (sD s) (gR (sD s) v4 1) (Int32.toNatClampNeg v2)))))) _
      refine X_run 1 (i1 := 57) (L1 := [some (.inr (.inr (some 8))), none, some (.inl v2), some (.inl v3), some (.inr (.inr v4))]) (st1 := []) rfl ?_
      exact X_ret rfl rfl qVs_i
def t_Op_takeMember_14 (s : St) (v1 : Option Nat) : St := (f_Op_miss s v1)
def w_Op_takeMember_14 (s : St) (v1 : Option Nat) : Prop := (w_Op_miss s v1 ∧ True)
theorem ct_Op_takeMember_14 {d : Nat} (s : St) (v1 : Option Nat) (hw : w_Op_takeMember_14 s v1) : X m_Op_takeMember (d + 3) 14 [some (.inr (.inr (some 8))), some (.inr (.inr v1)), none, none, none] [] (hp s) (qVs (t_Op_takeMember_14 s v1)) := by
  unfold t_Op_takeMember_14
  unfold w_Op_takeMember_14 at hw
  refine X_run 2 (i1 := 16) (L1 := [some (.inr (.inr (some 8))), some (.inr (.inr v1)), none, none, none]) (st1 := [.inr (.inr v1), .inr (.inr (some 8))]) rfl ?_
  obtain ⟨hc, hw⟩ := hw
  refine X_callv m_Op_miss (As := [.inr (.inr v1)]) (st := []) ok_Op_miss rfl rfl rfl (hp_obj rfl) rfl (Nat.le_of_ble_eq_true rfl) (Nat.le_of_ble_eq_true rfl) (c_Op_miss (d := d) s v1 hc) ?_
  rintro _ _ ⟨rfl, rfl⟩
  show X _ _ 17 [some (.inr (.inr (some 8))), some (.inr (.inr v1)), none, none, none] [] (hp (f_Op_miss s v1)) _
  refine X_run 1 (i1 := 57) (L1 := [some (.inr (.inr (some 8))), some (.inr (.inr v1)), none, none, none]) (st1 := []) rfl ?_
  exact X_ret rfl rfl qVs_i
def f_Op_takeMember (s : St) (a0 : Option Nat) (a1 : Int32) : St := (cond (cn1 .eq (b2i (isc (sD s) a0 1))) (t_Op_takeMember_14 s a0) (cond (cn2 .eq (gI (sD s) a0 0) (f_Op_operand s (1 : Int32))) (t_Op_takeMember_24 ((f_Op_isWithin s a1 (Int32.ofNat (aLN (sD s) (gR (sD s) a0 1)))).2) a1 (f_Op_operand s (1 : Int32)) a0 (b2i (f_Op_isWithin s a1 (Int32.ofNat (aLN (sD s) (gR (sD s) a0 1)))).1)) (t_Op_takeMember_14 s a0)))
def w_Op_takeMember (s : St) (a0 : Option Nat) (a1 : Int32) : Prop := (w_Op_operand s (1 : Int32) ∧ (tho (sD s) a0 ∧ ((cn1 .eq (b2i (isc (sD s) a0 1))) = true → (w_Op_takeMember_14 s a0)) ∧ ((cn1 .eq (b2i (isc (sD s) a0 1))) = false → (cst (sD s) a0 1 ∧ (ob (sD s) a0 6 ∧ ((cn2 .eq (gI (sD s) a0 0) (f_Op_operand s (1 : Int32))) = true → (ob (sD s) a0 6 ∧ (isL (sD s) (gR (sD s) a0 1) ∧ (w_Op_isWithin s a1 (Int32.ofNat (aLN (sD s) (gR (sD s) a0 1))) ∧ (w_Op_takeMember_24 ((f_Op_isWithin s a1 (Int32.ofNat (aLN (sD s) (gR (sD s) a0 1)))).2) a1 (f_Op_operand s (1 : Int32)) a0 (b2i (f_Op_isWithin s a1 (Int32.ofNat (aLN (sD s) (gR (sD s) a0 1)))).1)))))) ∧ ((cn2 .eq (gI (sD s) a0 0) (f_Op_operand s (1 : Int32))) = false → (w_Op_takeMember_14 s a0)))))))
theorem c_Op_takeMember {d : Nat} (s : St) (a0 : Option Nat) (a1 : Int32) (hw : w_Op_takeMember s a0 a1) : X m_Op_takeMember (d + 3) 0 (entL 5 [.inr (.inr (some 8)), .inr (.inr a0), .inl a1]) [] (hp s) (qVs (f_Op_takeMember s a0 a1)) := by
  unfold f_Op_takeMember
  unfold w_Op_takeMember at hw
  refine X_run 2 (i1 := 2) (L1 := [some (.inr (.inr (some 8))), some (.inr (.inr a0)), some (.inl a1), none, none]) (st1 := [.inl (1 : Int32), .inr (.inr (some 8))]) rfl ?_
  obtain ⟨hc, hw⟩ := hw
  refine X_callv m_Op_operand (As := [.inl (1 : Int32)]) (st := []) ok_Op_operand rfl rfl rfl (hp_obj rfl) rfl (Nat.le_of_ble_eq_true rfl) (Nat.le_of_ble_eq_true rfl) (c_Op_operand (d := d + 2) s (1 : Int32) hc) ?_
  rintro _ _ ⟨rfl, rfl⟩
  show X _ _ 3 [some (.inr (.inr (some 8))), some (.inr (.inr a0)), some (.inl a1), none, none] [.inl (f_Op_operand s (1 : Int32))] (hp s) _
  refine X_run 2 (i1 := 5) (L1 := [some (.inr (.inr (some 8))), some (.inr (.inr a0)), some (.inl a1), some (.inl (f_Op_operand s (1 : Int32))), none]) (st1 := [.inr (.inr a0)]) rfl ?_
  obtain ⟨hc, hw⟩ := hw
  refine X_dinst rfl (by decide) hc ?_
  show X _ _ 6 [some (.inr (.inr (some 8))), some (.inr (.inr a0)), some (.inl a1), some (.inl (f_Op_operand s (1 : Int32))), none] [.inl (b2i (isc (sD s) a0 1))] (hp s) _
  refine X_run 1 (i1 := cond (cn1 .eq (b2i (isc (sD s) a0 1))) 14 7) (L1 := [some (.inr (.inr (some 8))), some (.inr (.inr a0)), some (.inl a1), some (.inl (f_Op_operand s (1 : Int32))), none]) (st1 := []) rfl ?_
  refine X_brq (fun hb => ?_) (fun hb => ?_)
  · have hw := hw.1 hb
    refine X_mask [true, true, false, false, true] ?_
    exact ct_Op_takeMember_14 s a0 hw
  · have hw := hw.2 hb
    refine X_run 1 (i1 := 8) (L1 := [some (.inr (.inr (some 8))), some (.inr (.inr a0)), some (.inl a1), some (.inl (f_Op_operand s (1 : Int32))), none]) (st1 := [.inr (.inr a0)]) rfl ?_
    obtain ⟨hc, hw⟩ := hw
    refine X_dcast rfl hc ?_
    refine X_run 2 (i1 := 11) (L1 := [some (.inr (.inr (some 8))), some (.inr (.inr a0)), some (.inl a1), some (.inl (f_Op_operand s (1 : Int32))), some (.inr (.inr a0))]) (st1 := [.inr (.inr a0)]) rfl ?_
    obtain ⟨hc, hw⟩ := hw
    refine X_dI rfl hc rfl ?_
    show X _ _ 12 [some (.inr (.inr (some 8))), some (.inr (.inr a0)), some (.inl a1), some (.inl (f_Op_operand s (1 : Int32))), some (.inr (.inr a0))] [.inl (gI (sD s) a0 0)] (hp s) _
    refine X_run 2 (i1 := cond (cn2 .eq (gI (sD s) a0 0) (f_Op_operand s (1 : Int32))) 18 14) (L1 := [some (.inr (.inr (some 8))), some (.inr (.inr a0)), some (.inl a1), some (.inl (f_Op_operand s (1 : Int32))), some (.inr (.inr a0))]) (st1 := []) rfl ?_
    refine X_brq (fun hb => ?_) (fun hb => ?_)
    · have hw := hw.1 hb
      refine X_run 3 (i1 := 21) (L1 := [some (.inr (.inr (some 8))), some (.inr (.inr a0)), some (.inl a1), some (.inl (f_Op_operand s (1 : Int32))), some (.inr (.inr a0))]) (st1 := [.inr (.inr a0), .inl a1, .inr (.inr (some 8))]) rfl ?_
      obtain ⟨hc, hw⟩ := hw
      refine X_dR rfl hc rfl ?_
      show X _ _ 22 [some (.inr (.inr (some 8))), some (.inr (.inr a0)), some (.inl a1), some (.inl (f_Op_operand s (1 : Int32))), some (.inr (.inr a0))] [.inr (.inr (gR (sD s) a0 1)), .inl a1, .inr (.inr (some 8))] (hp s) _
      obtain ⟨hc, hw⟩ := hw
      refine X_dlen rfl hc ?_
      show X _ _ 23 [some (.inr (.inr (some 8))), some (.inr (.inr a0)), some (.inl a1), some (.inl (f_Op_operand s (1 : Int32))), some (.inr (.inr a0))] [.inl (Int32.ofNat (aLN (sD s) (gR (sD s) a0 1))), .inl a1, .inr (.inr (some 8))] (hp s) _
      obtain ⟨hc, hw⟩ := hw
      refine X_callv m_Op_isWithin (As := [.inl a1, .inl (Int32.ofNat (aLN (sD s) (gR (sD s) a0 1)))]) (st := []) ok_Op_isWithin rfl rfl rfl (hp_obj rfl) rfl (Nat.le_of_ble_eq_true rfl) (Nat.le_of_ble_eq_true rfl) (c_Op_isWithin (d := d) s a1 (Int32.ofNat (aLN (sD s) (gR (sD s) a0 1))) hc) ?_
      rintro _ _ ⟨rfl, rfl⟩
      show X _ _ 24 [some (.inr (.inr (some 8))), some (.inr (.inr a0)), some (.inl a1), some (.inl (f_Op_operand s (1 : Int32))), some (.inr (.inr a0))] [.inl (b2i (f_Op_isWithin s a1 (Int32.ofNat (aLN (sD s) (gR (sD s) a0 1)))).1)] (hp ((f_Op_isWithin s a1 (Int32.ofNat (aLN (sD s) (gR (sD s) a0 1)))).2)) _
      show X _ _ 24 [some (.inr (.inr (some 8))), some (.inr (.inr a0)), some (.inl a1), some (.inl (f_Op_operand s (1 : Int32))), some (.inr (.inr a0))] [.inl (b2i (f_Op_isWithin s a1 (Int32.ofNat (aLN (sD s) (gR (sD s) a0 1)))).1)] (hp ((f_Op_isWithin s a1 (Int32.ofNat (aLN (sD s) (gR (sD s) a0 1)))).2)) _
      refine X_mask [true, false, true, true, true] ?_
      exact ct_Op_takeMember_24 ((f_Op_isWithin s a1 (Int32.ofNat (aLN (sD s) (gR (sD s) a0 1)))).2) a1 (f_Op_operand s (1 : Int32)) a0 (b2i (f_Op_isWithin s a1 (Int32.ofNat (aLN (sD s) (gR (sD s) a0 1)))).1) hw
    · have hw := hw.2 hb
      refine X_mask [true, true, false, false, false] ?_
      exact ct_Op_takeMember_14 s a0 hw
def t_Op_putMember_50 (s : St) (w0 : Int64) (w1 : Int32) (w2 : Option Nat) : St := (f_Ro_put s w2 w1 w0)
def w_Op_putMember_50 (s : St) (w0 : Int64) (w1 : Int32) (w2 : Option Nat) : Prop := (w_Ro_put s w2 w1 w0 ∧ (oC (sD s) w2 = some 6 ∧ True))
theorem ct_Op_putMember_50 {d : Nat} (s : St) (w0 : Int64) (w1 : Int32) (w2 : Option Nat) (hw : w_Op_putMember_50 s w0 w1 w2) : X m_Op_putMember (d + 4) 50 [none, none, none, none, none] [.inr (.inl w0), .inl w1, .inr (.inr w2)] (hp s) (qVs (t_Op_putMember_50 s w0 w1 w2)) := by
  unfold t_Op_putMember_50
  unfold w_Op_putMember_50 at hw
  obtain ⟨hc, hw⟩ := hw
  obtain ⟨hr, hw⟩ := hw
  refine X_dcallv m_Ro_put (As := [.inl w1, .inr (.inl w0)]) (st := []) ok_Ro_put rfl rfl rfl hr rfl (Nat.le_of_ble_eq_true rfl) (Nat.le_of_ble_eq_true rfl) (c_Ro_put (d := d) s w2 w1 w0 hc) ?_
  rintro _ _ ⟨rfl, rfl⟩
  show X _ _ 51 [none, none, none, none, none] [] (hp (f_Ro_put s w2 w1 w0)) _
  exact X_ret rfl rfl qVs_i
def t_Op_putMember_24 (s : St) (v2 : Int32) (v3 : Int32) (v4 : Option Nat) (w0 : Int32) : St := (cond (cn1 .eq w0) s (cond (cn2 .ne v3 (6 : Int32)) (cond (cn2 .ne v3 (7 : Int32)) (t_Op_putMember_50 s (Int32.toInt64 (f_Op_numberAt s (4 : Int32))) v2 v4) (t_Op_putMember_50 s (f_Op_realAt s (4 : Int32)) v2 v4)) (f_Ro_put s v4 v2 (Int32.toInt64 (f_Re_toFloat (f_Op_realAt s (4 : Int32)))))))
def w_Op_putMember_24 (s : St) (v2 : Int32) (v3 : Int32) (v4 : Option Nat) (w0 : Int32) : Prop := ((cn1 .eq w0) = true → True) ∧ ((cn1 .eq w0) = false → ((cn2 .ne v3 (6 : Int32)) = true → ((cn2 .ne v3 (7 : Int32)) = true → (w_Op_numberAt s (4 : Int32) ∧ (w_Op_putMember_50 s (Int32.toInt64 (f_Op_numberAt s (4 : Int32))) v2 v4))) ∧ ((cn2 .ne v3 (7 : Int32)) = false → (w_Op_realAt s (4 : Int32) ∧ (w_Op_putMember_50 s (f_Op_realAt s (4 : Int32)) v2 v4)))) ∧ ((cn2 .ne v3 (6 : Int32)) = false → (w_Op_realAt s (4 : Int32) ∧ (w_Ro_put s v4 v2 (Int32.toInt64 (f_Re_toFloat (f_Op_realAt s (4 : Int32)))) ∧ (oC (sD s) v4 = some 6 ∧ True)))))
theorem ct_Op_putMember_24 {d : Nat} (s : St) (v2 : Int32) (v3 : Int32) (v4 : Option Nat) (w0 : Int32) (hw : w_Op_putMember_24 s v2 v3 v4 w0) : X m_Op_putMember (d + 4) 24 [some (.inr (.inr (some 8))), none, some (.inl v2), some (.inl v3), some (.inr (.inr v4))] [.inl w0] (hp s) (qVs (t_Op_putMember_24 s v2 v3 v4 w0)) := by
  unfold t_Op_putMember_24
  unfold w_Op_putMember_24 at hw
  refine X_run 1 (i1 := cond (cn1 .eq w0) 51 25) (L1 := [some (.inr (.inr (some 8))), none, some (.inl v2), some (.inl v3), some (.inr (.inr v4))]) (st1 := []) rfl ?_
  refine X_brq (fun hb => ?_) (fun hb => ?_)
  · skip
    exact X_ret rfl rfl qVs_i
  · have hw := hw.2 hb
    refine X_run 3 (i1 := cond (cn2 .ne v3 (6 : Int32)) 37 28) (L1 := [some (.inr (.inr (some 8))), none, some (.inl v2), some (.inl v3), some (.inr (.inr v4))]) (st1 := []) rfl ?_
    refine X_brq (fun hb => ?_) (fun hb => ?_)
    · have hw := hw.1 hb
      refine X_run 5 (i1 := cond (cn2 .ne v3 (7 : Int32)) 46 42) (L1 := [some (.inr (.inr (some 8))), none, some (.inl v2), some (.inl v3), some (.inr (.inr v4))]) (st1 := [.inl v2, .inr (.inr v4)]) rfl ?_
      refine X_brq (fun hb => ?_) (fun hb => ?_)
      · have hw := hw.1 hb
        refine X_run 2 (i1 := 48) (L1 := [some (.inr (.inr (some 8))), none, some (.inl v2), some (.inl v3), some (.inr (.inr v4))]) (st1 := [.inl (4 : Int32), .inr (.inr (some 8)), .inl v2, .inr (.inr v4)]) rfl ?_
        obtain ⟨hc, hw⟩ := hw
        refine X_callv m_Op_numberAt (As := [.inl (4 : Int32)]) (st := [.inl v2, .inr (.inr v4)]) ok_Op_numberAt rfl rfl rfl (hp_obj rfl) rfl (Nat.le_of_ble_eq_true rfl) (Nat.le_of_ble_eq_true rfl) (c_Op_numberAt (d := d + 2) s (4 : Int32) hc) ?_
        rintro _ _ ⟨rfl, rfl⟩
        show X _ _ 49 [some (.inr (.inr (some 8))), none, some (.inl v2), some (.inl v3), some (.inr (.inr v4))] [.inl (f_Op_numberAt s (4 : Int32)), .inl v2, .inr (.inr v4)] (hp s) _
        refine X_run 1 (i1 := 50) (L1 := [some (.inr (.inr (some 8))), none, some (.inl v2), some (.inl v3), some (.inr (.inr v4))]) (st1 := [.inr (.inl (Int32.toInt64 (f_Op_numberAt s (4 : Int32)))), .inl v2, .inr (.inr v4)]) rfl ?_
        refine X_mask [false, true, false, false, false] ?_
        exact ct_Op_putMember_50 s (Int32.toInt64 (f_Op_numberAt s (4 : Int32))) v2 v4 hw
      · have hw := hw.2 hb
        refine X_run 2 (i1 := 44) (L1 := [some (.inr (.inr (some 8))), none, some (.inl v2), some (.inl v3), some (.inr (.inr v4))]) (st1 := [.inl (4 : Int32), .inr (.inr (some 8)), .inl v2, .inr (.inr v4)]) rfl ?_
        obtain ⟨hc, hw⟩ := hw
        refine X_callv m_Op_realAt (As := [.inl (4 : Int32)]) (st := [.inl v2, .inr (.inr v4)]) ok_Op_realAt rfl rfl rfl (hp_obj rfl) rfl (Nat.le_of_ble_eq_true rfl) (Nat.le_of_ble_eq_true rfl) (c_Op_realAt (d := d + 2) s (4 : Int32) hc) ?_
        rintro _ _ ⟨rfl, rfl⟩
        show X _ _ 45 [some (.inr (.inr (some 8))), none, some (.inl v2), some (.inl v3), some (.inr (.inr v4))] [.inr (.inl (f_Op_realAt s (4 : Int32))), .inl v2, .inr (.inr v4)] (hp s) _
        refine X_run 1 (i1 := 50) (L1 := [some (.inr (.inr (some 8))), none, some (.inl v2), some (.inl v3), some (.inr (.inr v4))]) (st1 := [.inr (.inl (f_Op_realAt s (4 : Int32))), .inl v2, .inr (.inr v4)]) rfl ?_
        refine X_mask [false, true, false, false, false] ?_
        exact ct_Op_putMember_50 s (f_Op_realAt s (4 : Int32)) v2 v4 hw
    · have hw := hw.2 hb
      refine X_run 4 (i1 := 32) (L1 := [some (.inr (.inr (some 8))), none, some (.inl v2), some (.inl v3), some (.inr (.inr v4))]) (st1 := [.inl (4 : Int32), .inr (.inr (some 8)), .inl v2, .inr (.inr v4)]) rfl ?_
      obtain ⟨hc, hw⟩ := hw
      refine X_callv m_Op_realAt (As := [.inl (4 : Int32)]) (st := [.inl v2, .inr (.inr v4)]) ok_Op_realAt rfl rfl rfl (hp_obj rfl) rfl (Nat.le_of_ble_eq_true rfl) (Nat.le_of_ble_eq_true rfl) (c_Op_realAt (d := d + 2) s (4 : Int32) hc) ?_
      rintro _ _ ⟨rfl, rfl⟩
      show X _ _ 33 [some (.inr (.inr (some 8))), none, some (.inl v2), some (.inl v3), some (.inr (.inr v4))] [.inr (.inl (f_Op_realAt s (4 : Int32))), .inl v2, .inr (.inr v4)] (hp s) _
      refine X_calls m_Re_toFloat (As := [.inr (.inl (f_Op_realAt s (4 : Int32)))]) (st := [.inl v2, .inr (.inr v4)]) ok_Re_toFloat rfl rfl rfl (Nat.le_of_ble_eq_true rfl) (Nat.le_of_ble_eq_true rfl) (c_Re_toFloat (d := d + 1) (f_Op_realAt s (4 : Int32))) ?_
      rintro _ _ ⟨rfl, rfl⟩
      show X _ _ 34 [some (.inr (.inr (some 8))), none, some (.inl v2), some (.inl v3), some (.inr (.inr v4))] [.inl (f_Re_toFloat (f_Op_realAt s (4 : Int32))), .inl v2, .inr (.inr v4)] (hp s) _
      refine X_run 1 (i1 := 35) (L1 := [some (.inr (.inr (some 8))), none, some (.inl v2), some (.inl v3), some (.inr (.inr v4))]) (st1 := [.inr (.inl (Int32.toInt64 (f_Re_toFloat (f_Op_realAt s (4 : Int32))))), .inl v2, .inr (.inr v4)]) rfl ?_
      obtain ⟨hc, hw⟩ := hw
      obtain ⟨hr, hw⟩ := hw
      refine X_dcallv m_Ro_put (As := [.inl v2, .inr (.inl (Int32.toInt64 (f_Re_toFloat (f_Op_realAt s (4 : Int32)))))]) (st := []) ok_Ro_put rfl rfl rfl hr rfl (Nat.le_of_ble_eq_true rfl) (Nat.le_of_ble_eq_true rfl) (c_Ro_put (d := d) s v4 v2 (Int32.toInt64 (f_Re_toFloat (f_Op_realAt s (4 : Int32)))) hc) ?_
      rintro _ _ ⟨rfl, rfl⟩
      show X _ _ 36 [some (.inr (.inr (some 8))), none, some (.inl v2), some (.inl v3), some (.inr (.inr v4))] [] (hp (f_Ro_put s v4 v2 (Int32.toInt64 (f_Re_toFloat (f_Op_realAt s (4 : Int32)))))) _
      refine X_run 1 (i1 := 51) (L1 := [some (.inr (.inr (some 8))), none, some (.inl v2), some (.inl v3), some (.inr (.inr v4))]) (st1 := []) rfl ?_
      exact X_ret rfl rfl qVs_i
def t_Op_putMember_14 (s : St) (v1 : Option Nat) : St := (f_Op_miss s v1)
def w_Op_putMember_14 (s : St) (v1 : Option Nat) : Prop := (w_Op_miss s v1 ∧ True)
theorem ct_Op_putMember_14 {d : Nat} (s : St) (v1 : Option Nat) (hw : w_Op_putMember_14 s v1) : X m_Op_putMember (d + 4) 14 [some (.inr (.inr (some 8))), some (.inr (.inr v1)), none, none, none] [] (hp s) (qVs (t_Op_putMember_14 s v1)) := by
  unfold t_Op_putMember_14
  unfold w_Op_putMember_14 at hw
  refine X_run 2 (i1 := 16) (L1 := [some (.inr (.inr (some 8))), some (.inr (.inr v1)), none, none, none]) (st1 := [.inr (.inr v1), .inr (.inr (some 8))]) rfl ?_
  obtain ⟨hc, hw⟩ := hw
  refine X_callv m_Op_miss (As := [.inr (.inr v1)]) (st := []) ok_Op_miss rfl rfl rfl (hp_obj rfl) rfl (Nat.le_of_ble_eq_true rfl) (Nat.le_of_ble_eq_true rfl) (c_Op_miss (d := d + 1) s v1 hc) ?_
  rintro _ _ ⟨rfl, rfl⟩
  show X _ _ 17 [some (.inr (.inr (some 8))), some (.inr (.inr v1)), none, none, none] [] (hp (f_Op_miss s v1)) _
  refine X_run 1 (i1 := 51) (L1 := [some (.inr (.inr (some 8))), some (.inr (.inr v1)), none, none, none]) (st1 := []) rfl ?_
  exact X_ret rfl rfl qVs_i
def f_Op_putMember (s : St) (a0 : Option Nat) (a1 : Int32) : St := (cond (cn1 .eq (b2i (isc (sD s) a0 1))) (t_Op_putMember_14 s a0) (cond (cn2 .eq (gI (sD s) a0 0) (f_Op_operand s (1 : Int32))) (t_Op_putMember_24 ((f_Op_isWithin s a1 (Int32.ofNat (aLN (sD s) (gR (sD s) a0 1)))).2) a1 (f_Op_operand s (1 : Int32)) a0 (b2i (f_Op_isWithin s a1 (Int32.ofNat (aLN (sD s) (gR (sD s) a0 1)))).1)) (t_Op_putMember_14 s a0)))
def w_Op_putMember (s : St) (a0 : Option Nat) (a1 : Int32) : Prop := (w_Op_operand s (1 : Int32) ∧ (tho (sD s) a0 ∧ ((cn1 .eq (b2i (isc (sD s) a0 1))) = true → (w_Op_putMember_14 s a0)) ∧ ((cn1 .eq (b2i (isc (sD s) a0 1))) = false → (cst (sD s) a0 1 ∧ (ob (sD s) a0 6 ∧ ((cn2 .eq (gI (sD s) a0 0) (f_Op_operand s (1 : Int32))) = true → (ob (sD s) a0 6 ∧ (isL (sD s) (gR (sD s) a0 1) ∧ (w_Op_isWithin s a1 (Int32.ofNat (aLN (sD s) (gR (sD s) a0 1))) ∧ (w_Op_putMember_24 ((f_Op_isWithin s a1 (Int32.ofNat (aLN (sD s) (gR (sD s) a0 1)))).2) a1 (f_Op_operand s (1 : Int32)) a0 (b2i (f_Op_isWithin s a1 (Int32.ofNat (aLN (sD s) (gR (sD s) a0 1)))).1)))))) ∧ ((cn2 .eq (gI (sD s) a0 0) (f_Op_operand s (1 : Int32))) = false → (w_Op_putMember_14 s a0)))))))
theorem c_Op_putMember {d : Nat} (s : St) (a0 : Option Nat) (a1 : Int32) (hw : w_Op_putMember s a0 a1) : X m_Op_putMember (d + 4) 0 (entL 5 [.inr (.inr (some 8)), .inr (.inr a0), .inl a1]) [] (hp s) (qVs (f_Op_putMember s a0 a1)) := by
  unfold f_Op_putMember
  unfold w_Op_putMember at hw
  refine X_run 2 (i1 := 2) (L1 := [some (.inr (.inr (some 8))), some (.inr (.inr a0)), some (.inl a1), none, none]) (st1 := [.inl (1 : Int32), .inr (.inr (some 8))]) rfl ?_
  obtain ⟨hc, hw⟩ := hw
  refine X_callv m_Op_operand (As := [.inl (1 : Int32)]) (st := []) ok_Op_operand rfl rfl rfl (hp_obj rfl) rfl (Nat.le_of_ble_eq_true rfl) (Nat.le_of_ble_eq_true rfl) (c_Op_operand (d := d + 3) s (1 : Int32) hc) ?_
  rintro _ _ ⟨rfl, rfl⟩
  show X _ _ 3 [some (.inr (.inr (some 8))), some (.inr (.inr a0)), some (.inl a1), none, none] [.inl (f_Op_operand s (1 : Int32))] (hp s) _
  refine X_run 2 (i1 := 5) (L1 := [some (.inr (.inr (some 8))), some (.inr (.inr a0)), some (.inl a1), some (.inl (f_Op_operand s (1 : Int32))), none]) (st1 := [.inr (.inr a0)]) rfl ?_
  obtain ⟨hc, hw⟩ := hw
  refine X_dinst rfl (by decide) hc ?_
  show X _ _ 6 [some (.inr (.inr (some 8))), some (.inr (.inr a0)), some (.inl a1), some (.inl (f_Op_operand s (1 : Int32))), none] [.inl (b2i (isc (sD s) a0 1))] (hp s) _
  refine X_run 1 (i1 := cond (cn1 .eq (b2i (isc (sD s) a0 1))) 14 7) (L1 := [some (.inr (.inr (some 8))), some (.inr (.inr a0)), some (.inl a1), some (.inl (f_Op_operand s (1 : Int32))), none]) (st1 := []) rfl ?_
  refine X_brq (fun hb => ?_) (fun hb => ?_)
  · have hw := hw.1 hb
    refine X_mask [true, true, false, false, true] ?_
    exact ct_Op_putMember_14 s a0 hw
  · have hw := hw.2 hb
    refine X_run 1 (i1 := 8) (L1 := [some (.inr (.inr (some 8))), some (.inr (.inr a0)), some (.inl a1), some (.inl (f_Op_operand s (1 : Int32))), none]) (st1 := [.inr (.inr a0)]) rfl ?_
    obtain ⟨hc, hw⟩ := hw
    refine X_dcast rfl hc ?_
    refine X_run 2 (i1 := 11) (L1 := [some (.inr (.inr (some 8))), some (.inr (.inr a0)), some (.inl a1), some (.inl (f_Op_operand s (1 : Int32))), some (.inr (.inr a0))]) (st1 := [.inr (.inr a0)]) rfl ?_
    obtain ⟨hc, hw⟩ := hw
    refine X_dI rfl hc rfl ?_
    show X _ _ 12 [some (.inr (.inr (some 8))), some (.inr (.inr a0)), some (.inl a1), some (.inl (f_Op_operand s (1 : Int32))), some (.inr (.inr a0))] [.inl (gI (sD s) a0 0)] (hp s) _
    refine X_run 2 (i1 := cond (cn2 .eq (gI (sD s) a0 0) (f_Op_operand s (1 : Int32))) 18 14) (L1 := [some (.inr (.inr (some 8))), some (.inr (.inr a0)), some (.inl a1), some (.inl (f_Op_operand s (1 : Int32))), some (.inr (.inr a0))]) (st1 := []) rfl ?_
    refine X_brq (fun hb => ?_) (fun hb => ?_)
    · have hw := hw.1 hb
      refine X_run 3 (i1 := 21) (L1 := [some (.inr (.inr (some 8))), some (.inr (.inr a0)), some (.inl a1), some (.inl (f_Op_operand s (1 : Int32))), some (.inr (.inr a0))]) (st1 := [.inr (.inr a0), .inl a1, .inr (.inr (some 8))]) rfl ?_
      obtain ⟨hc, hw⟩ := hw
      refine X_dR rfl hc rfl ?_
      show X _ _ 22 [some (.inr (.inr (some 8))), some (.inr (.inr a0)), some (.inl a1), some (.inl (f_Op_operand s (1 : Int32))), some (.inr (.inr a0))] [.inr (.inr (gR (sD s) a0 1)), .inl a1, .inr (.inr (some 8))] (hp s) _
      obtain ⟨hc, hw⟩ := hw
      refine X_dlen rfl hc ?_
      show X _ _ 23 [some (.inr (.inr (some 8))), some (.inr (.inr a0)), some (.inl a1), some (.inl (f_Op_operand s (1 : Int32))), some (.inr (.inr a0))] [.inl (Int32.ofNat (aLN (sD s) (gR (sD s) a0 1))), .inl a1, .inr (.inr (some 8))] (hp s) _
      obtain ⟨hc, hw⟩ := hw
      refine X_callv m_Op_isWithin (As := [.inl a1, .inl (Int32.ofNat (aLN (sD s) (gR (sD s) a0 1)))]) (st := []) ok_Op_isWithin rfl rfl rfl (hp_obj rfl) rfl (Nat.le_of_ble_eq_true rfl) (Nat.le_of_ble_eq_true rfl) (c_Op_isWithin (d := d + 1) s a1 (Int32.ofNat (aLN (sD s) (gR (sD s) a0 1))) hc) ?_
      rintro _ _ ⟨rfl, rfl⟩
      show X _ _ 24 [some (.inr (.inr (some 8))), some (.inr (.inr a0)), some (.inl a1), some (.inl (f_Op_operand s (1 : Int32))), some (.inr (.inr a0))] [.inl (b2i (f_Op_isWithin s a1 (Int32.ofNat (aLN (sD s) (gR (sD s) a0 1)))).1)] (hp ((f_Op_isWithin s a1 (Int32.ofNat (aLN (sD s) (gR (sD s) a0 1)))).2)) _
      show X _ _ 24 [some (.inr (.inr (some 8))), some (.inr (.inr a0)), some (.inl a1), some (.inl (f_Op_operand s (1 : Int32))), some (.inr (.inr a0))] [.inl (b2i (f_Op_isWithin s a1 (Int32.ofNat (aLN (sD s) (gR (sD s) a0 1)))).1)] (hp ((f_Op_isWithin s a1 (Int32.ofNat (aLN (sD s) (gR (sD s) a0 1)))).2)) _
      refine X_mask [true, false, true, true, true] ?_
      exact ct_Op_putMember_24 ((f_Op_isWithin s a1 (Int32.ofNat (aLN (sD s) (gR (sD s) a0 1)))).2) a1 (f_Op_operand s (1 : Int32)) a0 (b2i (f_Op_isWithin s a1 (Int32.ofNat (aLN (sD s) (gR (sD s) a0 1)))).1) hw
    · have hw := hw.2 hb
      refine X_mask [true, true, false, false, false] ?_
      exact ct_Op_putMember_14 s a0 hw
def t_Op_areAlike_21 (s : St) (v0 : Option Nat) (v1 : Option Nat) : Bool := (cond (cn1 .eq (b2i (isc (sD s) v0 2))) false (cond (cn1 .eq (b2i (isc (sD s) v1 2))) false true))
def w_Op_areAlike_21 (s : St) (v0 : Option Nat) (v1 : Option Nat) : Prop := (tho (sD s) v0 ∧ ((cn1 .eq (b2i (isc (sD s) v0 2))) = true → True) ∧ ((cn1 .eq (b2i (isc (sD s) v0 2))) = false → (tho (sD s) v1 ∧ True)))
theorem ct_Op_areAlike_21 {d : Nat} (s : St) (v0 : Option Nat) (v1 : Option Nat) (hw : w_Op_areAlike_21 s v0 v1) : X m_Op_areAlike (d) 21 [some (.inr (.inr v0)), some (.inr (.inr v1)), none, none] [] (hp s) (qB (hp s) (t_Op_areAlike_21 s v0 v1)) := by
  unfold t_Op_areAlike_21
  unfold w_Op_areAlike_21 at hw
  refine X_run 1 (i1 := 22) (L1 := [some (.inr (.inr v0)), some (.inr (.inr v1)), none, none]) (st1 := [.inr (.inr v0)]) rfl ?_
  obtain ⟨hc, hw⟩ := hw
  refine X_dinst rfl (by decide) hc ?_
  show X _ _ 23 [some (.inr (.inr v0)), some (.inr (.inr v1)), none, none] [.inl (b2i (isc (sD s) v0 2))] (hp s) _
  refine X_run 1 (i1 := cond (cn1 .eq (b2i (isc (sD s) v0 2))) 29 24) (L1 := [some (.inr (.inr v0)), some (.inr (.inr v1)), none, none]) (st1 := []) rfl ?_
  refine X_brq (fun hb => ?_) (fun hb => ?_)
  · skip
    refine X_run 1 (i1 := 30) (L1 := [some (.inr (.inr v0)), some (.inr (.inr v1)), none, none]) (st1 := [.inl (0 : Int32)]) rfl ?_
    exact X_zret rfl rfl (b2i_01 false) qB_i
  · have hw := hw.2 hb
    refine X_run 1 (i1 := 25) (L1 := [some (.inr (.inr v0)), some (.inr (.inr v1)), none, none]) (st1 := [.inr (.inr v1)]) rfl ?_
    obtain ⟨hc, hw⟩ := hw
    refine X_dinst rfl (by decide) hc ?_
    show X _ _ 26 [some (.inr (.inr v0)), some (.inr (.inr v1)), none, none] [.inl (b2i (isc (sD s) v1 2))] (hp s) _
    refine X_run 1 (i1 := cond (cn1 .eq (b2i (isc (sD s) v1 2))) 29 27) (L1 := [some (.inr (.inr v0)), some (.inr (.inr v1)), none, none]) (st1 := []) rfl ?_
    refine X_brq (fun hb => ?_) (fun hb => ?_)
    · skip
      refine X_run 1 (i1 := 30) (L1 := [some (.inr (.inr v0)), some (.inr (.inr v1)), none, none]) (st1 := [.inl (0 : Int32)]) rfl ?_
      exact X_zret rfl rfl (b2i_01 false) qB_i
    · skip
      refine X_run 2 (i1 := 30) (L1 := [some (.inr (.inr v0)), some (.inr (.inr v1)), none, none]) (st1 := [.inl (1 : Int32)]) rfl ?_
      exact X_zret rfl rfl (b2i_01 true) qB_i
def f_Op_areAlike (s : St) (a0 : Option Nat) (a1 : Option Nat) : Bool := (cond (cn1 .eq (b2i (isc (sD s) a0 1))) (t_Op_areAlike_21 s a0 a1) (cond (cn1 .eq (b2i (isc (sD s) a1 1))) (t_Op_areAlike_21 s a0 a1) (cond (cn2 .ne (gI (sD s) a0 0) (gI (sD s) a1 0)) false true)))
def w_Op_areAlike (s : St) (a0 : Option Nat) (a1 : Option Nat) : Prop := (tho (sD s) a0 ∧ ((cn1 .eq (b2i (isc (sD s) a0 1))) = true → (w_Op_areAlike_21 s a0 a1)) ∧ ((cn1 .eq (b2i (isc (sD s) a0 1))) = false → (cst (sD s) a0 1 ∧ (tho (sD s) a1 ∧ ((cn1 .eq (b2i (isc (sD s) a1 1))) = true → (w_Op_areAlike_21 s a0 a1)) ∧ ((cn1 .eq (b2i (isc (sD s) a1 1))) = false → (cst (sD s) a1 1 ∧ (ob (sD s) a0 6 ∧ (ob (sD s) a1 6 ∧ True))))))))
theorem c_Op_areAlike {d : Nat} (s : St) (a0 : Option Nat) (a1 : Option Nat) (hw : w_Op_areAlike s a0 a1) : X m_Op_areAlike (d) 0 (entL 4 [.inr (.inr a0), .inr (.inr a1)]) [] (hp s) (qB (hp s) (f_Op_areAlike s a0 a1)) := by
  unfold f_Op_areAlike
  unfold w_Op_areAlike at hw
  refine X_run 1 (i1 := 1) (L1 := [some (.inr (.inr a0)), some (.inr (.inr a1)), none, none]) (st1 := [.inr (.inr a0)]) rfl ?_
  obtain ⟨hc, hw⟩ := hw
  refine X_dinst rfl (by decide) hc ?_
  show X _ _ 2 [some (.inr (.inr a0)), some (.inr (.inr a1)), none, none] [.inl (b2i (isc (sD s) a0 1))] (hp s) _
  refine X_run 1 (i1 := cond (cn1 .eq (b2i (isc (sD s) a0 1))) 21 3) (L1 := [some (.inr (.inr a0)), some (.inr (.inr a1)), none, none]) (st1 := []) rfl ?_
  refine X_brq (fun hb => ?_) (fun hb => ?_)
  · have hw := hw.1 hb
    exact ct_Op_areAlike_21 s a0 a1 hw
  · have hw := hw.2 hb
    refine X_run 1 (i1 := 4) (L1 := [some (.inr (.inr a0)), some (.inr (.inr a1)), none, none]) (st1 := [.inr (.inr a0)]) rfl ?_
    obtain ⟨hc, hw⟩ := hw
    refine X_dcast rfl hc ?_
    refine X_run 2 (i1 := 7) (L1 := [some (.inr (.inr a0)), some (.inr (.inr a1)), some (.inr (.inr a0)), none]) (st1 := [.inr (.inr a1)]) rfl ?_
    obtain ⟨hc, hw⟩ := hw
    refine X_dinst rfl (by decide) hc ?_
    show X _ _ 8 [some (.inr (.inr a0)), some (.inr (.inr a1)), some (.inr (.inr a0)), none] [.inl (b2i (isc (sD s) a1 1))] (hp s) _
    refine X_run 1 (i1 := cond (cn1 .eq (b2i (isc (sD s) a1 1))) 21 9) (L1 := [some (.inr (.inr a0)), some (.inr (.inr a1)), some (.inr (.inr a0)), none]) (st1 := []) rfl ?_
    refine X_brq (fun hb => ?_) (fun hb => ?_)
    · have hw := hw.1 hb
      refine X_mask [true, true, false, true] ?_
      exact ct_Op_areAlike_21 s a0 a1 hw
    · have hw := hw.2 hb
      refine X_run 1 (i1 := 10) (L1 := [some (.inr (.inr a0)), some (.inr (.inr a1)), some (.inr (.inr a0)), none]) (st1 := [.inr (.inr a1)]) rfl ?_
      obtain ⟨hc, hw⟩ := hw
      refine X_dcast rfl hc ?_
      refine X_run 2 (i1 := 13) (L1 := [some (.inr (.inr a0)), some (.inr (.inr a1)), some (.inr (.inr a0)), some (.inr (.inr a1))]) (st1 := [.inr (.inr a0)]) rfl ?_
      obtain ⟨hc, hw⟩ := hw
      refine X_dI rfl hc rfl ?_
      show X _ _ 14 [some (.inr (.inr a0)), some (.inr (.inr a1)), some (.inr (.inr a0)), some (.inr (.inr a1))] [.inl (gI (sD s) a0 0)] (hp s) _
      refine X_run 1 (i1 := 15) (L1 := [some (.inr (.inr a0)), some (.inr (.inr a1)), some (.inr (.inr a0)), some (.inr (.inr a1))]) (st1 := [.inr (.inr a1), .inl (gI (sD s) a0 0)]) rfl ?_
      obtain ⟨hc, hw⟩ := hw
      refine X_dI rfl hc rfl ?_
      show X _ _ 16 [some (.inr (.inr a0)), some (.inr (.inr a1)), some (.inr (.inr a0)), some (.inr (.inr a1))] [.inl (gI (sD s) a1 0), .inl (gI (sD s) a0 0)] (hp s) _
      refine X_run 1 (i1 := cond (cn2 .ne (gI (sD s) a0 0) (gI (sD s) a1 0)) 19 17) (L1 := [some (.inr (.inr a0)), some (.inr (.inr a1)), some (.inr (.inr a0)), some (.inr (.inr a1))]) (st1 := []) rfl ?_
      refine X_brq (fun hb => ?_) (fun hb => ?_)
      · skip
        refine X_run 1 (i1 := 20) (L1 := [some (.inr (.inr a0)), some (.inr (.inr a1)), some (.inr (.inr a0)), some (.inr (.inr a1))]) (st1 := [.inl (0 : Int32)]) rfl ?_
        exact X_zret rfl rfl (b2i_01 false) qB_i
      · skip
        refine X_run 2 (i1 := 20) (L1 := [some (.inr (.inr a0)), some (.inr (.inr a1)), some (.inr (.inr a0)), some (.inr (.inr a1))]) (st1 := [.inl (1 : Int32)]) rfl ?_
        exact X_zret rfl rfl (b2i_01 true) qB_i
def t_Op_copyMembers_111 (fu : Nat) (s : St) (w0 : Int32) : St := s
def w_Op_copyMembers_111 (fu : Nat) (s : St) (w0 : Int32) : Prop := True
theorem ct_Op_copyMembers_111 {d : Nat} (fu : Nat) (s : St) (w0 : Int32) (hw : w_Op_copyMembers_111 fu s w0) : X m_Op_copyMembers (d + 3) 111 [none, none, none, none, none, none, none, none, none, none] [.inl w0] (hp s) (qVs (t_Op_copyMembers_111 fu s w0)) := by
  unfold t_Op_copyMembers_111
  unfold w_Op_copyMembers_111 at hw
  refine X_run 1 (i1 := 112) (L1 := [none, none, none, none, none, none, none, none, none, none]) (st1 := []) rfl ?_
  exact X_ret rfl rfl qVs_i
def t_Op_copyMembers_105 (fu : Nat) (s : St) (v5 : Int32) : St := (t_Op_copyMembers_111 fu ((f_Le_burn s (f_Op_eighths (Int32.toInt64 v5))).2) (b2i (f_Le_burn s (f_Op_eighths (Int32.toInt64 v5))).1))
def w_Op_copyMembers_105 (fu : Nat) (s : St) (v5 : Int32) : Prop := (w_Le_burn s (f_Op_eighths (Int32.toInt64 v5)) ∧ (w_Op_copyMembers_111 fu ((f_Le_burn s (f_Op_eighths (Int32.toInt64 v5))).2) (b2i (f_Le_burn s (f_Op_eighths (Int32.toInt64 v5))).1)))
theorem ct_Op_copyMembers_105 {d : Nat} (fu : Nat) (s : St) (v5 : Int32) (hw : w_Op_copyMembers_105 fu s v5) : X m_Op_copyMembers (d + 3) 105 [some (.inr (.inr (some 8))), none, none, none, none, some (.inl v5), none, none, none, none] [] (hp s) (qVs (t_Op_copyMembers_105 fu s v5)) := by
  unfold t_Op_copyMembers_105
  unfold w_Op_copyMembers_105 at hw
  refine X_run 1 (i1 := 106) (L1 := [some (.inr (.inr (some 8))), none, none, none, none, some (.inl v5), none, none, none, none]) (st1 := [.inr (.inr (some 8))]) rfl ?_
  refine X_gF (v := .inr (.inr (some 1))) rfl rfl rfl rfl ?_
  refine X_run 2 (i1 := 109) (L1 := [some (.inr (.inr (some 8))), none, none, none, none, some (.inl v5), none, none, none, none]) (st1 := [.inr (.inl (Int32.toInt64 v5)), .inr (.inr (some 1))]) rfl ?_
  refine X_calls m_Op_eighths (As := [.inr (.inl (Int32.toInt64 v5))]) (st := [.inr (.inr (some 1))]) ok_Op_eighths rfl rfl rfl (Nat.le_of_ble_eq_true rfl) (Nat.le_of_ble_eq_true rfl) (c_Op_eighths (d := d + 2) (Int32.toInt64 v5)) ?_
  rintro _ _ ⟨rfl, rfl⟩
  show X _ _ 110 [some (.inr (.inr (some 8))), none, none, none, none, some (.inl v5), none, none, none, none] [.inr (.inl (f_Op_eighths (Int32.toInt64 v5))), .inr (.inr (some 1))] (hp s) _
  obtain ⟨hc, hw⟩ := hw
  refine X_callv m_Le_burn (As := [.inr (.inl (f_Op_eighths (Int32.toInt64 v5)))]) (st := []) ok_Le_burn rfl rfl rfl (hp_obj rfl) rfl (Nat.le_of_ble_eq_true rfl) (Nat.le_of_ble_eq_true rfl) (c_Le_burn (d := d + 2) s (f_Op_eighths (Int32.toInt64 v5)) hc) ?_
  rintro _ _ ⟨rfl, rfl⟩
  show X _ _ 111 [some (.inr (.inr (some 8))), none, none, none, none, some (.inl v5), none, none, none, none] [.inl (b2i (f_Le_burn s (f_Op_eighths (Int32.toInt64 v5))).1)] (hp ((f_Le_burn s (f_Op_eighths (Int32.toInt64 v5))).2)) _
  show X _ _ 111 [some (.inr (.inr (some 8))), none, none, none, none, some (.inl v5), none, none, none, none] [.inl (b2i (f_Le_burn s (f_Op_eighths (Int32.toInt64 v5))).1)] (hp ((f_Le_burn s (f_Op_eighths (Int32.toInt64 v5))).2)) _
  refine X_mask [false, true, true, true, true, false, true, true, true, true] ?_
  exact ct_Op_copyMembers_111 fu ((f_Le_burn s (f_Op_eighths (Int32.toInt64 v5))).2) (b2i (f_Le_burn s (f_Op_eighths (Int32.toInt64 v5))).1) hw
def t_Op_copyMembers_85 (fu : Nat) (s : St) (v1 : Option Nat) (v2 : Option Nat) (v3 : Int32) (v4 : Int32) (v5 : Int32) : St := (cond (cn1 .eq (b2i (isc (sD s) v1 1))) (t_Op_copyMembers_105 fu s v5) (cond (cn1 .eq (b2i (isc (sD s) v2 1))) (t_Op_copyMembers_105 fu s v5) (t_Op_copyMembers_105 fu (pQ s (dL (sD s) (gR (sD s) v2 1) (va_cpy (aLF (sD s) (gR (sD s) v1 1)) (aLF (sD s) (gR (sD s) v2 1)) (Int32.toNatClampNeg v3) (Int32.toNatClampNeg v4) (Int32.toNatClampNeg v5))) (sN s) (sU s)) v5)))
def w_Op_copyMembers_85 (fu : Nat) (s : St) (v1 : Option Nat) (v2 : Option Nat) (v3 : Int32) (v4 : Int32) (v5 : Int32) : Prop := (tho (sD s) v1 ∧ ((cn1 .eq (b2i (isc (sD s) v1 1))) = true → (w_Op_copyMembers_105 fu s v5)) ∧ ((cn1 .eq (b2i (isc (sD s) v1 1))) = false → (cst (sD s) v1 1 ∧ (tho (sD s) v2 ∧ ((cn1 .eq (b2i (isc (sD s) v2 1))) = true → (w_Op_copyMembers_105 fu s v5)) ∧ ((cn1 .eq (b2i (isc (sD s) v2 1))) = false → (cst (sD s) v2 1 ∧ (ob (sD s) v1 6 ∧ (ob (sD s) v2 6 ∧ (isL (sD s) (gR (sD s) v1 1) ∧ (isL (sD s) (gR (sD s) v2 1) ∧ (cpok v3 v4 v5 (aLN (sD s) (gR (sD s) v1 1)) (aLN (sD s) (gR (sD s) v2 1)) ∧ (w_Op_copyMembers_105 fu (pQ s (dL (sD s) (gR (sD s) v2 1) (va_cpy (aLF (sD s) (gR (sD s) v1 1)) (aLF (sD s) (gR (sD s) v2 1)) (Int32.toNatClampNeg v3) (Int32.toNatClampNeg v4) (Int32.toNatClampNeg v5))) (sN s) (sU s)) v5))))))))))))
theorem ct_Op_copyMembers_85 {d : Nat} (fu : Nat) (s : St) (v1 : Option Nat) (v2 : Option Nat) (v3 : Int32) (v4 : Int32) (v5 : Int32) (hw : w_Op_copyMembers_85 fu s v1 v2 v3 v4 v5) : X m_Op_copyMembers (d + 3) 85 [some (.inr (.inr (some 8))), some (.inr (.inr v1)), some (.inr (.inr v2)), some (.inl v3), some (.inl v4), some (.inl v5), none, none, none, none] [] (hp s) (qVs (t_Op_copyMembers_85 fu s v1 v2 v3 v4 v5)) := by
  unfold t_Op_copyMembers_85
  unfold w_Op_copyMembers_85 at hw
  refine X_run 1 (i1 := 86) (L1 := [some (.inr (.inr (some 8))), some (.inr (.inr v1)), some (.inr (.inr v2)), some (.inl v3), some (.inl v4), some (.inl v5), none, none, none, none]) (st1 := [.inr (.inr v1)]) rfl ?_
  obtain ⟨hc, hw⟩ := hw
  refine X_dinst rfl (by decide) hc ?_
  show X _ _ 87 [some (.inr (.inr (some 8))), some (.inr (.inr v1)), some (.inr (.inr v2)), some (.inl v3), some (.inl v4), some (.inl v5), none, none, none, none] [.inl (b2i (isc (sD s) v1 1))] (hp s) _
  refine X_run 1 (i1 := cond (cn1 .eq (b2i (isc (sD s) v1 1))) 105 88) (L1 := [some (.inr (.inr (some 8))), some (.inr (.inr v1)), some (.inr (.inr v2)), some (.inl v3), some (.inl v4), some (.inl v5), none, none, none, none]) (st1 := []) rfl ?_
  refine X_brq (fun hb => ?_) (fun hb => ?_)
  · have hw := hw.1 hb
    refine X_mask [true, false, false, false, false, true, true, true, true, true] ?_
    exact ct_Op_copyMembers_105 fu s v5 hw
  · have hw := hw.2 hb
    refine X_run 1 (i1 := 89) (L1 := [some (.inr (.inr (some 8))), some (.inr (.inr v1)), some (.inr (.inr v2)), some (.inl v3), some (.inl v4), some (.inl v5), none, none, none, none]) (st1 := [.inr (.inr v1)]) rfl ?_
    obtain ⟨hc, hw⟩ := hw
    refine X_dcast rfl hc ?_
    refine X_run 2 (i1 := 92) (L1 := [some (.inr (.inr (some 8))), some (.inr (.inr v1)), some (.inr (.inr v2)), some (.inl v3), some (.inl v4), some (.inl v5), none, none, some (.inr (.inr v1)), none]) (st1 := [.inr (.inr v2)]) rfl ?_
    obtain ⟨hc, hw⟩ := hw
    refine X_dinst rfl (by decide) hc ?_
    show X _ _ 93 [some (.inr (.inr (some 8))), some (.inr (.inr v1)), some (.inr (.inr v2)), some (.inl v3), some (.inl v4), some (.inl v5), none, none, some (.inr (.inr v1)), none] [.inl (b2i (isc (sD s) v2 1))] (hp s) _
    refine X_run 1 (i1 := cond (cn1 .eq (b2i (isc (sD s) v2 1))) 105 94) (L1 := [some (.inr (.inr (some 8))), some (.inr (.inr v1)), some (.inr (.inr v2)), some (.inl v3), some (.inl v4), some (.inl v5), none, none, some (.inr (.inr v1)), none]) (st1 := []) rfl ?_
    refine X_brq (fun hb => ?_) (fun hb => ?_)
    · have hw := hw.1 hb
      refine X_mask [true, false, false, false, false, true, true, true, false, true] ?_
      exact ct_Op_copyMembers_105 fu s v5 hw
    · have hw := hw.2 hb
      refine X_run 1 (i1 := 95) (L1 := [some (.inr (.inr (some 8))), some (.inr (.inr v1)), some (.inr (.inr v2)), some (.inl v3), some (.inl v4), some (.inl v5), none, none, some (.inr (.inr v1)), none]) (st1 := [.inr (.inr v2)]) rfl ?_
      obtain ⟨hc, hw⟩ := hw
      refine X_dcast rfl hc ?_
      refine X_run 2 (i1 := 98) (L1 := [some (.inr (.inr (some 8))), some (.inr (.inr v1)), some (.inr (.inr v2)), some (.inl v3), some (.inl v4), some (.inl v5), none, none, some (.inr (.inr v1)), some (.inr (.inr v2))]) (st1 := [.inr (.inr v1)]) rfl ?_
      obtain ⟨hc, hw⟩ := hw
      refine X_dR rfl hc rfl ?_
      show X _ _ 99 [some (.inr (.inr (some 8))), some (.inr (.inr v1)), some (.inr (.inr v2)), some (.inl v3), some (.inl v4), some (.inl v5), none, none, some (.inr (.inr v1)), some (.inr (.inr v2))] [.inr (.inr (gR (sD s) v1 1))] (hp s) _
      refine X_run 2 (i1 := 101) (L1 := [some (.inr (.inr (some 8))), some (.inr (.inr v1)), some (.inr (.inr v2)), some (.inl v3), some (.inl v4), some (.inl v5), none, none, some (.inr (.inr v1)), some (.inr (.inr v2))]) (st1 := [.inr (.inr v2), .inl v3, .inr (.inr (gR (sD s) v1 1))]) rfl ?_
      obtain ⟨hc, hw⟩ := hw
      refine X_dR rfl hc rfl ?_
      show X _ _ 102 [some (.inr (.inr (some 8))), some (.inr (.inr v1)), some (.inr (.inr v2)), some (.inl v3), some (.inl v4), some (.inl v5), none, none, some (.inr (.inr v1)), some (.inr (.inr v2))] [.inr (.inr (gR (sD s) v2 1)), .inl v3, .inr (.inr (gR (sD s) v1 1))] (hp s) _
      refine X_run 2 (i1 := 104) (L1 := [some (.inr (.inr (some 8))), some (.inr (.inr v1)), some (.inr (.inr v2)), some (.inl v3), some (.inl v4), some (.inl v5), none, none, some (.inr (.inr v1)), some (.inr (.inr v2))]) (st1 := [.inl v5, .inl v4, .inr (.inr (gR (sD s) v2 1)), .inl v3, .inr (.inr (gR (sD s) v1 1))]) rfl ?_
      obtain ⟨ha, hw⟩ := hw
      obtain ⟨hb, hw⟩ := hw
      obtain ⟨hc, hw⟩ := hw
      refine X_dcopy rfl (Nat.le_of_ble_eq_true rfl) ha hb hc ?_
      show X _ _ 105 [some (.inr (.inr (some 8))), some (.inr (.inr v1)), some (.inr (.inr v2)), some (.inl v3), some (.inl v4), some (.inl v5), none, none, some (.inr (.inr v1)), some (.inr (.inr v2))] [] (hp (pQ s (dL (sD s) (gR (sD s) v2 1) (va_cpy (aLF (sD s) (gR (sD s) v1 1)) (aLF (sD s) (gR (sD s) v2 1)) (Int32.toNatClampNeg v3) (Int32.toNatClampNeg v4) (Int32.toNatClampNeg v5))) (sN s) (sU s))) _
      show X _ _ 105 [some (.inr (.inr (some 8))), some (.inr (.inr v1)), some (.inr (.inr v2)), some (.inl v3), some (.inl v4), some (.inl v5), none, none, some (.inr (.inr v1)), some (.inr (.inr v2))] [] (hp (pQ s (dL (sD s) (gR (sD s) v2 1) (va_cpy (aLF (sD s) (gR (sD s) v1 1)) (aLF (sD s) (gR (sD s) v2 1)) (Int32.toNatClampNeg v3) (Int32.toNatClampNeg v4) (Int32.toNatClampNeg v5))) (sN s) (sU s))) _
      refine X_mask [true, false, false, false, false, true, true, true, false, false] ?_
      exact ct_Op_copyMembers_105 fu (pQ s (dL (sD s) (gR (sD s) v2 1) (va_cpy (aLF (sD s) (gR (sD s) v1 1)) (aLF (sD s) (gR (sD s) v2 1)) (Int32.toNatClampNeg v3) (Int32.toNatClampNeg v4) (Int32.toNatClampNeg v5))) (sN s) (sU s)) v5 hw
def t_Op_copyMembers_79 (fu : Nat) (s : St) (v1 : Option Nat) (v2 : Option Nat) (v3 : Int32) (v4 : Int32) (v5 : Int32) (w0 : Int32) : St := (cond (cn1 .ne w0) (t_Op_copyMembers_85 fu s v1 v2 v3 v4 v5) (f_Le_fault s (5 : Int32)))
def w_Op_copyMembers_79 (fu : Nat) (s : St) (v1 : Option Nat) (v2 : Option Nat) (v3 : Int32) (v4 : Int32) (v5 : Int32) (w0 : Int32) : Prop := ((cn1 .ne w0) = true → (w_Op_copyMembers_85 fu s v1 v2 v3 v4 v5)) ∧ ((cn1 .ne w0) = false → (w_Le_fault s (5 : Int32) ∧ True))
theorem ct_Op_copyMembers_79 {d : Nat} (fu : Nat) (s : St) (v1 : Option Nat) (v2 : Option Nat) (v3 : Int32) (v4 : Int32) (v5 : Int32) (w0 : Int32) (hw : w_Op_copyMembers_79 fu s v1 v2 v3 v4 v5 w0) : X m_Op_copyMembers (d + 3) 79 [some (.inr (.inr (some 8))), some (.inr (.inr v1)), some (.inr (.inr v2)), some (.inl v3), some (.inl v4), some (.inl v5), none, none, none, none] [.inl w0] (hp s) (qVs (t_Op_copyMembers_79 fu s v1 v2 v3 v4 v5 w0)) := by
  unfold t_Op_copyMembers_79
  unfold w_Op_copyMembers_79 at hw
  refine X_run 1 (i1 := cond (cn1 .ne w0) 85 80) (L1 := [some (.inr (.inr (some 8))), some (.inr (.inr v1)), some (.inr (.inr v2)), some (.inl v3), some (.inl v4), some (.inl v5), none, none, none, none]) (st1 := []) rfl ?_
  refine X_brq (fun hb => ?_) (fun hb => ?_)
  · have hw := hw.1 hb
    exact ct_Op_copyMembers_85 fu s v1 v2 v3 v4 v5 hw
  · have hw := hw.2 hb
    refine X_run 1 (i1 := 81) (L1 := [some (.inr (.inr (some 8))), some (.inr (.inr v1)), some (.inr (.inr v2)), some (.inl v3), some (.inl v4), some (.inl v5), none, none, none, none]) (st1 := [.inr (.inr (some 8))]) rfl ?_
    refine X_gF (v := .inr (.inr (some 1))) rfl rfl rfl rfl ?_
    refine X_run 1 (i1 := 83) (L1 := [some (.inr (.inr (some 8))), some (.inr (.inr v1)), some (.inr (.inr v2)), some (.inl v3), some (.inl v4), some (.inl v5), none, none, none, none]) (st1 := [.inl (5 : Int32), .inr (.inr (some 1))]) rfl ?_
    obtain ⟨hc, hw⟩ := hw
    refine X_callv m_Le_fault (As := [.inl (5 : Int32)]) (st := []) ok_Le_fault rfl rfl rfl (hp_obj rfl) rfl (Nat.le_of_ble_eq_true rfl) (Nat.le_of_ble_eq_true rfl) (c_Le_fault (d := d + 1) s (5 : Int32) hc) ?_
    rintro _ _ ⟨rfl, rfl⟩
    show X _ _ 84 [some (.inr (.inr (some 8))), some (.inr (.inr v1)), some (.inr (.inr v2)), some (.inl v3), some (.inl v4), some (.inl v5), none, none, none, none] [] (hp (f_Le_fault s (5 : Int32))) _
    refine X_run 1 (i1 := 112) (L1 := [some (.inr (.inr (some 8))), some (.inr (.inr v1)), some (.inr (.inr v2)), some (.inl v3), some (.inl v4), some (.inl v5), none, none, none, none]) (st1 := []) rfl ?_
    exact X_ret rfl rfl qVs_i
def t_Op_copyMembers_56 (fu : Nat) (s : St) : St := (f_Le_fault s (2 : Int32))
def w_Op_copyMembers_56 (fu : Nat) (s : St) : Prop := (w_Le_fault s (2 : Int32) ∧ True)
theorem ct_Op_copyMembers_56 {d : Nat} (fu : Nat) (s : St) (hw : w_Op_copyMembers_56 fu s) : X m_Op_copyMembers (d + 3) 56 [some (.inr (.inr (some 8))), none, none, none, none, none, none, none, none, none] [] (hp s) (qVs (t_Op_copyMembers_56 fu s)) := by
  unfold t_Op_copyMembers_56
  unfold w_Op_copyMembers_56 at hw
  refine X_run 1 (i1 := 57) (L1 := [some (.inr (.inr (some 8))), none, none, none, none, none, none, none, none, none]) (st1 := [.inr (.inr (some 8))]) rfl ?_
  refine X_gF (v := .inr (.inr (some 1))) rfl rfl rfl rfl ?_
  refine X_run 1 (i1 := 59) (L1 := [some (.inr (.inr (some 8))), none, none, none, none, none, none, none, none, none]) (st1 := [.inl (2 : Int32), .inr (.inr (some 1))]) rfl ?_
  obtain ⟨hc, hw⟩ := hw
  refine X_callv m_Le_fault (As := [.inl (2 : Int32)]) (st := []) ok_Le_fault rfl rfl rfl (hp_obj rfl) rfl (Nat.le_of_ble_eq_true rfl) (Nat.le_of_ble_eq_true rfl) (c_Le_fault (d := d + 1) s (2 : Int32) hc) ?_
  rintro _ _ ⟨rfl, rfl⟩
  show X _ _ 60 [some (.inr (.inr (some 8))), none, none, none, none, none, none, none, none, none] [] (hp (f_Le_fault s (2 : Int32))) _
  refine X_run 1 (i1 := 112) (L1 := [some (.inr (.inr (some 8))), none, none, none, none, none, none, none, none, none]) (st1 := []) rfl ?_
  exact X_ret rfl rfl qVs_i
def t_Op_copyMembers_16 (fu : Nat) (s : St) : St := (f_Le_fault s (1 : Int32))
def w_Op_copyMembers_16 (fu : Nat) (s : St) : Prop := (w_Le_fault s (1 : Int32) ∧ True)
theorem ct_Op_copyMembers_16 {d : Nat} (fu : Nat) (s : St) (hw : w_Op_copyMembers_16 fu s) : X m_Op_copyMembers (d + 3) 16 [some (.inr (.inr (some 8))), none, none, none, none, none, none, none, none, none] [] (hp s) (qVs (t_Op_copyMembers_16 fu s)) := by
  unfold t_Op_copyMembers_16
  unfold w_Op_copyMembers_16 at hw
  refine X_run 1 (i1 := 17) (L1 := [some (.inr (.inr (some 8))), none, none, none, none, none, none, none, none, none]) (st1 := [.inr (.inr (some 8))]) rfl ?_
  refine X_gF (v := .inr (.inr (some 1))) rfl rfl rfl rfl ?_
  refine X_run 1 (i1 := 19) (L1 := [some (.inr (.inr (some 8))), none, none, none, none, none, none, none, none, none]) (st1 := [.inl (1 : Int32), .inr (.inr (some 1))]) rfl ?_
  obtain ⟨hc, hw⟩ := hw
  refine X_callv m_Le_fault (As := [.inl (1 : Int32)]) (st := []) ok_Le_fault rfl rfl rfl (hp_obj rfl) rfl (Nat.le_of_ble_eq_true rfl) (Nat.le_of_ble_eq_true rfl) (c_Le_fault (d := d + 1) s (1 : Int32) hc) ?_
  rintro _ _ ⟨rfl, rfl⟩
  show X _ _ 20 [some (.inr (.inr (some 8))), none, none, none, none, none, none, none, none, none] [] (hp (f_Le_fault s (1 : Int32))) _
  refine X_run 1 (i1 := 112) (L1 := [some (.inr (.inr (some 8))), none, none, none, none, none, none, none, none, none]) (st1 := []) rfl ?_
  exact X_ret rfl rfl qVs_i
def f_Op_copyMembers (fu : Nat) (s : St) (a0 : Option Nat) (a1 : Option Nat) : St := (cond (Option.isNone a0) (t_Op_copyMembers_16 fu s) (cond (Option.isNone a1) (t_Op_copyMembers_16 fu s) (cond (cn1 .ne (b2i (f_Op_areAlike s a0 a1))) (cond (cn1 .lt (f_Op_numberAt s (2 : Int32))) (t_Op_copyMembers_56 fu s) (cond (cn1 .lt (f_Op_numberAt s (4 : Int32))) (t_Op_copyMembers_56 fu s) (cond (cn1 .lt (f_Op_numberAt s (5 : Int32))) (t_Op_copyMembers_56 fu s) (cond (cn1 .gt (lg_cmp ((Int32.toInt64 (f_Op_numberAt s (2 : Int32))) + (Int32.toInt64 (f_Op_numberAt s (5 : Int32)))) (Int32.toInt64 (u_size s a0)))) (t_Op_copyMembers_56 fu s) (cond (cn1 .le (lg_cmp ((Int32.toInt64 (f_Op_numberAt s (4 : Int32))) + (Int32.toInt64 (f_Op_numberAt s (5 : Int32)))) (Int32.toInt64 (u_size s a1)))) (cond (cn1 .eq (b2i (isc (sD s) a0 2))) (t_Op_copyMembers_85 fu s a0 a1 (f_Op_numberAt s (2 : Int32)) (f_Op_numberAt s (4 : Int32)) (f_Op_numberAt s (5 : Int32))) (cond (cn1 .eq (b2i (isc (sD s) a1 2))) (t_Op_copyMembers_85 fu s a0 a1 (f_Op_numberAt s (2 : Int32)) (f_Op_numberAt s (4 : Int32)) (f_Op_numberAt s (5 : Int32))) (t_Op_copyMembers_79 fu ((f_Sh_takeFrom fu s a1 a0 (f_Op_numberAt s (2 : Int32)) (f_Op_numberAt s (4 : Int32)) (f_Op_numberAt s (5 : Int32))).2) a0 a1 (f_Op_numberAt s (2 : Int32)) (f_Op_numberAt s (4 : Int32)) (f_Op_numberAt s (5 : Int32)) (b2i (f_Sh_takeFrom fu s a1 a0 (f_Op_numberAt s (2 : Int32)) (f_Op_numberAt s (4 : Int32)) (f_Op_numberAt s (5 : Int32))).1)))) (t_Op_copyMembers_56 fu s)))))) (f_Le_fault s (5 : Int32)))))
def w_Op_copyMembers (fu : Nat) (s : St) (a0 : Option Nat) (a1 : Option Nat) : Prop := (w_Op_numberAt s (2 : Int32) ∧ (w_Op_numberAt s (4 : Int32) ∧ (w_Op_numberAt s (5 : Int32) ∧ ((Option.isNone a0) = true → (w_Op_copyMembers_16 fu s)) ∧ ((Option.isNone a0) = false → ((Option.isNone a1) = true → (w_Op_copyMembers_16 fu s)) ∧ ((Option.isNone a1) = false → (w_Op_areAlike s a0 a1 ∧ ((cn1 .ne (b2i (f_Op_areAlike s a0 a1))) = true → ((cn1 .lt (f_Op_numberAt s (2 : Int32))) = true → (w_Op_copyMembers_56 fu s)) ∧ ((cn1 .lt (f_Op_numberAt s (2 : Int32))) = false → ((cn1 .lt (f_Op_numberAt s (4 : Int32))) = true → (w_Op_copyMembers_56 fu s)) ∧ ((cn1 .lt (f_Op_numberAt s (4 : Int32))) = false → ((cn1 .lt (f_Op_numberAt s (5 : Int32))) = true → (w_Op_copyMembers_56 fu s)) ∧ ((cn1 .lt (f_Op_numberAt s (5 : Int32))) = false → (wu_size s a0 ∧ ((cn1 .gt (lg_cmp ((Int32.toInt64 (f_Op_numberAt s (2 : Int32))) + (Int32.toInt64 (f_Op_numberAt s (5 : Int32)))) (Int32.toInt64 (u_size s a0)))) = true → (w_Op_copyMembers_56 fu s)) ∧ ((cn1 .gt (lg_cmp ((Int32.toInt64 (f_Op_numberAt s (2 : Int32))) + (Int32.toInt64 (f_Op_numberAt s (5 : Int32)))) (Int32.toInt64 (u_size s a0)))) = false → (wu_size s a1 ∧ ((cn1 .le (lg_cmp ((Int32.toInt64 (f_Op_numberAt s (4 : Int32))) + (Int32.toInt64 (f_Op_numberAt s (5 : Int32)))) (Int32.toInt64 (u_size s a1)))) = true → (tho (sD s) a0 ∧ ((cn1 .eq (b2i (isc (sD s) a0 2))) = true → (w_Op_copyMembers_85 fu s a0 a1 (f_Op_numberAt s (2 : Int32)) (f_Op_numberAt s (4 : Int32)) (f_Op_numberAt s (5 : Int32)))) ∧ ((cn1 .eq (b2i (isc (sD s) a0 2))) = false → (cst (sD s) a0 2 ∧ (tho (sD s) a1 ∧ ((cn1 .eq (b2i (isc (sD s) a1 2))) = true → (w_Op_copyMembers_85 fu s a0 a1 (f_Op_numberAt s (2 : Int32)) (f_Op_numberAt s (4 : Int32)) (f_Op_numberAt s (5 : Int32)))) ∧ ((cn1 .eq (b2i (isc (sD s) a1 2))) = false → (cst (sD s) a1 2 ∧ (w_Sh_takeFrom fu s a1 a0 (f_Op_numberAt s (2 : Int32)) (f_Op_numberAt s (4 : Int32)) (f_Op_numberAt s (5 : Int32)) ∧ (oC (sD s) a1 = some 7 ∧ (w_Op_copyMembers_79 fu ((f_Sh_takeFrom fu s a1 a0 (f_Op_numberAt s (2 : Int32)) (f_Op_numberAt s (4 : Int32)) (f_Op_numberAt s (5 : Int32))).2) a0 a1 (f_Op_numberAt s (2 : Int32)) (f_Op_numberAt s (4 : Int32)) (f_Op_numberAt s (5 : Int32)) (b2i (f_Sh_takeFrom fu s a1 a0 (f_Op_numberAt s (2 : Int32)) (f_Op_numberAt s (4 : Int32)) (f_Op_numberAt s (5 : Int32))).1))))))))))) ∧ ((cn1 .le (lg_cmp ((Int32.toInt64 (f_Op_numberAt s (4 : Int32))) + (Int32.toInt64 (f_Op_numberAt s (5 : Int32)))) (Int32.toInt64 (u_size s a1)))) = false → (w_Op_copyMembers_56 fu s))))))))) ∧ ((cn1 .ne (b2i (f_Op_areAlike s a0 a1))) = false → (w_Le_fault s (5 : Int32) ∧ True))))))))
theorem c_Op_copyMembers {d : Nat} (fu : Nat) (s : St) (a0 : Option Nat) (a1 : Option Nat) (hw : w_Op_copyMembers fu s a0 a1) : X m_Op_copyMembers (d + 3) 0 (entL 10 [.inr (.inr (some 8)), .inr (.inr a0), .inr (.inr a1)]) [] (hp s) (qVs (f_Op_copyMembers fu s a0 a1)) := by
  unfold f_Op_copyMembers
  unfold w_Op_copyMembers at hw
  refine X_run 2 (i1 := 2) (L1 := [some (.inr (.inr (some 8))), some (.inr (.inr a0)), some (.inr (.inr a1)), none, none, none, none, none, none, none]) (st1 := [.inl (2 : Int32), .inr (.inr (some 8))]) rfl ?_
  obtain ⟨hc, hw⟩ := hw
  refine X_callv m_Op_numberAt (As := [.inl (2 : Int32)]) (st := []) ok_Op_numberAt rfl rfl rfl (hp_obj rfl) rfl (Nat.le_of_ble_eq_true rfl) (Nat.le_of_ble_eq_true rfl) (c_Op_numberAt (d := d + 1) s (2 : Int32) hc) ?_
  rintro _ _ ⟨rfl, rfl⟩
  show X _ _ 3 [some (.inr (.inr (some 8))), some (.inr (.inr a0)), some (.inr (.inr a1)), none, none, none, none, none, none, none] [.inl (f_Op_numberAt s (2 : Int32))] (hp s) _
  refine X_run 3 (i1 := 6) (L1 := [some (.inr (.inr (some 8))), some (.inr (.inr a0)), some (.inr (.inr a1)), some (.inl (f_Op_numberAt s (2 : Int32))), none, none, none, none, none, none]) (st1 := [.inl (4 : Int32), .inr (.inr (some 8))]) rfl ?_
  obtain ⟨hc, hw⟩ := hw
  refine X_callv m_Op_numberAt (As := [.inl (4 : Int32)]) (st := []) ok_Op_numberAt rfl rfl rfl (hp_obj rfl) rfl (Nat.le_of_ble_eq_true rfl) (Nat.le_of_ble_eq_true rfl) (c_Op_numberAt (d := d + 1) s (4 : Int32) hc) ?_
  rintro _ _ ⟨rfl, rfl⟩
  show X _ _ 7 [some (.inr (.inr (some 8))), some (.inr (.inr a0)), some (.inr (.inr a1)), some (.inl (f_Op_numberAt s (2 : Int32))), none, none, none, none, none, none] [.inl (f_Op_numberAt s (4 : Int32))] (hp s) _
  refine X_run 3 (i1 := 10) (L1 := [some (.inr (.inr (some 8))), some (.inr (.inr a0)), some (.inr (.inr a1)), some (.inl (f_Op_numberAt s (2 : Int32))), some (.inl (f_Op_numberAt s (4 : Int32))), none, none, none, none, none]) (st1 := [.inl (5 : Int32), .inr (.inr (some 8))]) rfl ?_
  obtain ⟨hc, hw⟩ := hw
  refine X_callv m_Op_numberAt (As := [.inl (5 : Int32)]) (st := []) ok_Op_numberAt rfl rfl rfl (hp_obj rfl) rfl (Nat.le_of_ble_eq_true rfl) (Nat.le_of_ble_eq_true rfl) (c_Op_numberAt (d := d + 1) s (5 : Int32) hc) ?_
  rintro _ _ ⟨rfl, rfl⟩
  show X _ _ 11 [some (.inr (.inr (some 8))), some (.inr (.inr a0)), some (.inr (.inr a1)), some (.inl (f_Op_numberAt s (2 : Int32))), some (.inl (f_Op_numberAt s (4 : Int32))), none, none, none, none, none] [.inl (f_Op_numberAt s (5 : Int32))] (hp s) _
  refine X_run 3 (i1 := cond (Option.isNone a0) 16 14) (L1 := [some (.inr (.inr (some 8))), some (.inr (.inr a0)), some (.inr (.inr a1)), some (.inl (f_Op_numberAt s (2 : Int32))), some (.inl (f_Op_numberAt s (4 : Int32))), some (.inl (f_Op_numberAt s (5 : Int32))), none, none, none, none]) (st1 := []) rfl ?_
  refine X_brq (fun hb => ?_) (fun hb => ?_)
  · have hw := hw.1 hb
    refine X_mask [true, false, false, false, false, false, true, true, true, true] ?_
    exact ct_Op_copyMembers_16 fu s hw
  · have hw := hw.2 hb
    refine X_run 2 (i1 := cond (Option.isNone a1) 16 21) (L1 := [some (.inr (.inr (some 8))), some (.inr (.inr a0)), some (.inr (.inr a1)), some (.inl (f_Op_numberAt s (2 : Int32))), some (.inl (f_Op_numberAt s (4 : Int32))), some (.inl (f_Op_numberAt s (5 : Int32))), none, none, none, none]) (st1 := []) rfl ?_
    refine X_brq (fun hb => ?_) (fun hb => ?_)
    · have hw := hw.1 hb
      refine X_mask [true, false, false, false, false, false, true, true, true, true] ?_
      exact ct_Op_copyMembers_16 fu s hw
    · have hw := hw.2 hb
      refine X_run 2 (i1 := 23) (L1 := [some (.inr (.inr (some 8))), some (.inr (.inr a0)), some (.inr (.inr a1)), some (.inl (f_Op_numberAt s (2 : Int32))), some (.inl (f_Op_numberAt s (4 : Int32))), some (.inl (f_Op_numberAt s (5 : Int32))), none, none, none, none]) (st1 := [.inr (.inr a1), .inr (.inr a0)]) rfl ?_
      obtain ⟨hc, hw⟩ := hw
      refine X_calls m_Op_areAlike (As := [.inr (.inr a0), .inr (.inr a1)]) (st := []) ok_Op_areAlike rfl rfl rfl (Nat.le_of_ble_eq_true rfl) (Nat.le_of_ble_eq_true rfl) (c_Op_areAlike (d := d + 2) s a0 a1 hc) ?_
      rintro _ _ ⟨rfl, rfl⟩
      show X _ _ 24 [some (.inr (.inr (some 8))), some (.inr (.inr a0)), some (.inr (.inr a1)), some (.inl (f_Op_numberAt s (2 : Int32))), some (.inl (f_Op_numberAt s (4 : Int32))), some (.inl (f_Op_numberAt s (5 : Int32))), none, none, none, none] [.inl (b2i (f_Op_areAlike s a0 a1))] (hp s) _
      refine X_run 1 (i1 := cond (cn1 .ne (b2i (f_Op_areAlike s a0 a1))) 30 25) (L1 := [some (.inr (.inr (some 8))), some (.inr (.inr a0)), some (.inr (.inr a1)), some (.inl (f_Op_numberAt s (2 : Int32))), some (.inl (f_Op_numberAt s (4 : Int32))), some (.inl (f_Op_numberAt s (5 : Int32))), none, none, none, none]) (st1 := []) rfl ?_
      refine X_brq (fun hb => ?_) (fun hb => ?_)
      · have hw := hw.1 hb
        refine X_run 2 (i1 := cond (cn1 .lt (f_Op_numberAt s (2 : Int32))) 56 32) (L1 := [some (.inr (.inr (some 8))), some (.inr (.inr a0)), some (.inr (.inr a1)), some (.inl (f_Op_numberAt s (2 : Int32))), some (.inl (f_Op_numberAt s (4 : Int32))), some (.inl (f_Op_numberAt s (5 : Int32))), none, none, none, none]) (st1 := []) rfl ?_
        refine X_brq (fun hb => ?_) (fun hb => ?_)
        · have hw := hw.1 hb
          refine X_mask [true, false, false, false, false, false, true, true, true, true] ?_
          exact ct_Op_copyMembers_56 fu s hw
        · have hw := hw.2 hb
          refine X_run 2 (i1 := cond (cn1 .lt (f_Op_numberAt s (4 : Int32))) 56 34) (L1 := [some (.inr (.inr (some 8))), some (.inr (.inr a0)), some (.inr (.inr a1)), some (.inl (f_Op_numberAt s (2 : Int32))), some (.inl (f_Op_numberAt s (4 : Int32))), some (.inl (f_Op_numberAt s (5 : Int32))), none, none, none, none]) (st1 := []) rfl ?_
          refine X_brq (fun hb => ?_) (fun hb => ?_)
          · have hw := hw.1 hb
            refine X_mask [true, false, false, false, false, false, true, true, true, true] ?_
            exact ct_Op_copyMembers_56 fu s hw
          · have hw := hw.2 hb
            refine X_run 2 (i1 := cond (cn1 .lt (f_Op_numberAt s (5 : Int32))) 56 36) (L1 := [some (.inr (.inr (some 8))), some (.inr (.inr a0)), some (.inr (.inr a1)), some (.inl (f_Op_numberAt s (2 : Int32))), some (.inl (f_Op_numberAt s (4 : Int32))), some (.inl (f_Op_numberAt s (5 : Int32))), none, none, none, none]) (st1 := []) rfl ?_
            refine X_brq (fun hb => ?_) (fun hb => ?_)
            · have hw := hw.1 hb
              refine X_mask [true, false, false, false, false, false, true, true, true, true] ?_
              exact ct_Op_copyMembers_56 fu s hw
            · have hw := hw.2 hb
              refine X_run 6 (i1 := 42) (L1 := [some (.inr (.inr (some 8))), some (.inr (.inr a0)), some (.inr (.inr a1)), some (.inl (f_Op_numberAt s (2 : Int32))), some (.inl (f_Op_numberAt s (4 : Int32))), some (.inl (f_Op_numberAt s (5 : Int32))), none, none, none, none]) (st1 := [.inr (.inr a0), .inr (.inl ((Int32.toInt64 (f_Op_numberAt s (2 : Int32))) + (Int32.toInt64 (f_Op_numberAt s (5 : Int32)))))]) rfl ?_
              obtain ⟨hc, hw⟩ := hw
              refine X_usize (d := d + 2) rfl (Nat.le_of_ble_eq_true rfl) hc ?_
              show X _ _ 43 [some (.inr (.inr (some 8))), some (.inr (.inr a0)), some (.inr (.inr a1)), some (.inl (f_Op_numberAt s (2 : Int32))), some (.inl (f_Op_numberAt s (4 : Int32))), some (.inl (f_Op_numberAt s (5 : Int32))), none, none, none, none] [.inl (u_size s a0), .inr (.inl ((Int32.toInt64 (f_Op_numberAt s (2 : Int32))) + (Int32.toInt64 (f_Op_numberAt s (5 : Int32)))))] (hp s) _
              refine X_run 3 (i1 := cond (cn1 .gt (lg_cmp ((Int32.toInt64 (f_Op_numberAt s (2 : Int32))) + (Int32.toInt64 (f_Op_numberAt s (5 : Int32)))) (Int32.toInt64 (u_size s a0)))) 56 46) (L1 := [some (.inr (.inr (some 8))), some (.inr (.inr a0)), some (.inr (.inr a1)), some (.inl (f_Op_numberAt s (2 : Int32))), some (.inl (f_Op_numberAt s (4 : Int32))), some (.inl (f_Op_numberAt s (5 : Int32))), none, none, none, none]) (st1 := []) rfl ?_
              refine X_brq (fun hb => ?_) (fun hb => ?_)
              · have hw := hw.1 hb
                refine X_mask [true, false, false, false, false, false, true, true, true, true] ?_
                exact ct_Op_copyMembers_56 fu s hw
              · have hw := hw.2 hb
                refine X_run 6 (i1 := 52) (L1 := [some (.inr (.inr (some 8))), some (.inr (.inr a0)), some (.inr (.inr a1)), some (.inl (f_Op_numberAt s (2 : Int32))), some (.inl (f_Op_numberAt s (4 : Int32))), some (.inl (f_Op_numberAt s (5 : Int32))), none, none, none, none]) (st1 := [.inr (.inr a1), .inr (.inl ((Int32.toInt64 (f_Op_numberAt s (4 : Int32))) + (Int32.toInt64 (f_Op_numberAt s (5 : Int32)))))]) rfl ?_
                obtain ⟨hc, hw⟩ := hw
                refine X_usize (d := d + 2) rfl (Nat.le_of_ble_eq_true rfl) hc ?_
                show X _ _ 53 [some (.inr (.inr (some 8))), some (.inr (.inr a0)), some (.inr (.inr a1)), some (.inl (f_Op_numberAt s (2 : Int32))), some (.inl (f_Op_numberAt s (4 : Int32))), some (.inl (f_Op_numberAt s (5 : Int32))), none, none, none, none] [.inl (u_size s a1), .inr (.inl ((Int32.toInt64 (f_Op_numberAt s (4 : Int32))) + (Int32.toInt64 (f_Op_numberAt s (5 : Int32)))))] (hp s) _
                refine X_run 3 (i1 := cond (cn1 .le (lg_cmp ((Int32.toInt64 (f_Op_numberAt s (4 : Int32))) + (Int32.toInt64 (f_Op_numberAt s (5 : Int32)))) (Int32.toInt64 (u_size s a1)))) 61 56) (L1 := [some (.inr (.inr (some 8))), some (.inr (.inr a0)), some (.inr (.inr a1)), some (.inl (f_Op_numberAt s (2 : Int32))), some (.inl (f_Op_numberAt s (4 : Int32))), some (.inl (f_Op_numberAt s (5 : Int32))), none, none, none, none]) (st1 := []) rfl ?_
                refine X_brq (fun hb => ?_) (fun hb => ?_)
                · have hw := hw.1 hb
                  refine X_run 1 (i1 := 62) (L1 := [some (.inr (.inr (some 8))), some (.inr (.inr a0)), some (.inr (.inr a1)), some (.inl (f_Op_numberAt s (2 : Int32))), some (.inl (f_Op_numberAt s (4 : Int32))), some (.inl (f_Op_numberAt s (5 : Int32))), none, none, none, none]) (st1 := [.inr (.inr a0)]) rfl ?_
                  obtain ⟨hc, hw⟩ := hw
                  refine X_dinst rfl (by decide) hc ?_
                  show X _ _ 63 [some (.inr (.inr (some 8))), some (.inr (.inr a0)), some (.inr (.inr a1)), some (.inl (f_Op_numberAt s (2 : Int32))), some (.inl (f_Op_numberAt s (4 : Int32))), some (.inl (f_Op_numberAt s (5 : Int32))), none, none, none, none] [.inl (b2i (isc (sD s) a0 2))] (hp s) _
                  refine X_run 1 (i1 := cond (cn1 .eq (b2i (isc (sD s) a0 2))) 85 64) (L1 := [some (.inr (.inr (some 8))), some (.inr (.inr a0)), some (.inr (.inr a1)), some (.inl (f_Op_numberAt s (2 : Int32))), some (.inl (f_Op_numberAt s (4 : Int32))), some (.inl (f_Op_numberAt s (5 : Int32))), none, none, none, none]) (st1 := []) rfl ?_
                  refine X_brq (fun hb => ?_) (fun hb => ?_)
                  · have hw := hw.1 hb
                    exact ct_Op_copyMembers_85 fu s a0 a1 (f_Op_numberAt s (2 : Int32)) (f_Op_numberAt s (4 : Int32)) (f_Op_numberAt s (5 : Int32)) hw
                  · have hw := hw.2 hb
                    refine X_run 1 (i1 := 65) (L1 := [some (.inr (.inr (some 8))), some (.inr (.inr a0)), some (.inr (.inr a1)), some (.inl (f_Op_numberAt s (2 : Int32))), some (.inl (f_Op_numberAt s (4 : Int32))), some (.inl (f_Op_numberAt s (5 : Int32))), none, none, none, none]) (st1 := [.inr (.inr a0)]) rfl ?_
                    obtain ⟨hc, hw⟩ := hw
                    refine X_dcast rfl hc ?_
                    refine X_run 2 (i1 := 68) (L1 := [some (.inr (.inr (some 8))), some (.inr (.inr a0)), some (.inr (.inr a1)), some (.inl (f_Op_numberAt s (2 : Int32))), some (.inl (f_Op_numberAt s (4 : Int32))), some (.inl (f_Op_numberAt s (5 : Int32))), some (.inr (.inr a0)), none, none, none]) (st1 := [.inr (.inr a1)]) rfl ?_
                    obtain ⟨hc, hw⟩ := hw
                    refine X_dinst rfl (by decide) hc ?_
                    show X _ _ 69 [some (.inr (.inr (some 8))), some (.inr (.inr a0)), some (.inr (.inr a1)), some (.inl (f_Op_numberAt s (2 : Int32))), some (.inl (f_Op_numberAt s (4 : Int32))), some (.inl (f_Op_numberAt s (5 : Int32))), some (.inr (.inr a0)), none, none, none] [.inl (b2i (isc (sD s) a1 2))] (hp s) _
                    refine X_run 1 (i1 := cond (cn1 .eq (b2i (isc (sD s) a1 2))) 85 70) (L1 := [some (.inr (.inr (some 8))), some (.inr (.inr a0)), some (.inr (.inr a1)), some (.inl (f_Op_numberAt s (2 : Int32))), some (.inl (f_Op_numberAt s (4 : Int32))), some (.inl (f_Op_numberAt s (5 : Int32))), some (.inr (.inr a0)), none, none, none]) (st1 := []) rfl ?_
                    refine X_brq (fun hb => ?_) (fun hb => ?_)
                    · have hw := hw.1 hb
                      refine X_mask [true, true, true, true, true, true, false, true, true, true] ?_
                      exact ct_Op_copyMembers_85 fu s a0 a1 (f_Op_numberAt s (2 : Int32)) (f_Op_numberAt s (4 : Int32)) (f_Op_numberAt s (5 : Int32)) hw
                    · have hw := hw.2 hb
                      refine X_run 1 (i1 := 71) (L1 := [some (.inr (.inr (some 8))), some (.inr (.inr a0)), some (.inr (.inr a1)), some (.inl (f_Op_numberAt s (2 : Int32))), some (.inl (f_Op_numberAt s (4 : Int32))), some (.inl (f_Op_numberAt s (5 : Int32))), some (.inr (.inr a0)), none, none, none]) (st1 := [.inr (.inr a1)]) rfl ?_
                      obtain ⟨hc, hw⟩ := hw
                      refine X_dcast rfl hc ?_
                      refine X_run 6 (i1 := 78) (L1 := [some (.inr (.inr (some 8))), some (.inr (.inr a0)), some (.inr (.inr a1)), some (.inl (f_Op_numberAt s (2 : Int32))), some (.inl (f_Op_numberAt s (4 : Int32))), some (.inl (f_Op_numberAt s (5 : Int32))), some (.inr (.inr a0)), some (.inr (.inr a1)), none, none]) (st1 := [.inl (f_Op_numberAt s (5 : Int32)), .inl (f_Op_numberAt s (4 : Int32)), .inl (f_Op_numberAt s (2 : Int32)), .inr (.inr a0), .inr (.inr a1)]) rfl ?_
                      obtain ⟨hc, hw⟩ := hw
                      obtain ⟨hr, hw⟩ := hw
                      refine X_dcallv m_Sh_takeFrom (As := [.inr (.inr a0), .inl (f_Op_numberAt s (2 : Int32)), .inl (f_Op_numberAt s (4 : Int32)), .inl (f_Op_numberAt s (5 : Int32))]) (st := []) ok_Sh_takeFrom rfl rfl rfl hr rfl (Nat.le_of_ble_eq_true rfl) (Nat.le_of_ble_eq_true rfl) (c_Sh_takeFrom (d := d) fu s a1 a0 (f_Op_numberAt s (2 : Int32)) (f_Op_numberAt s (4 : Int32)) (f_Op_numberAt s (5 : Int32)) hc) ?_
                      rintro _ _ ⟨rfl, rfl⟩
                      show X _ _ 79 [some (.inr (.inr (some 8))), some (.inr (.inr a0)), some (.inr (.inr a1)), some (.inl (f_Op_numberAt s (2 : Int32))), some (.inl (f_Op_numberAt s (4 : Int32))), some (.inl (f_Op_numberAt s (5 : Int32))), some (.inr (.inr a0)), some (.inr (.inr a1)), none, none] [.inl (b2i (f_Sh_takeFrom fu s a1 a0 (f_Op_numberAt s (2 : Int32)) (f_Op_numberAt s (4 : Int32)) (f_Op_numberAt s (5 : Int32))).1)] (hp ((f_Sh_takeFrom fu s a1 a0 (f_Op_numberAt s (2 : Int32)) (f_Op_numberAt s (4 : Int32)) (f_Op_numberAt s (5 : Int32))).2)) _
                      show X _ _ 79 [some (.inr (.inr (some 8))), some (.inr (.inr a0)), some (.inr (.inr a1)), some (.inl (f_Op_numberAt s (2 : Int32))), some (.inl (f_Op_numberAt s (4 : Int32))), some (.inl (f_Op_numberAt s (5 : Int32))), some (.inr (.inr a0)), some (.inr (.inr a1)), none, none] [.inl (b2i (f_Sh_takeFrom fu s a1 a0 (f_Op_numberAt s (2 : Int32)) (f_Op_numberAt s (4 : Int32)) (f_Op_numberAt s (5 : Int32))).1)] (hp ((f_Sh_takeFrom fu s a1 a0 (f_Op_numberAt s (2 : Int32)) (f_Op_numberAt s (4 : Int32)) (f_Op_numberAt s (5 : Int32))).2)) _
                      refine X_mask [true, true, true, true, true, true, false, false, true, true] ?_
                      exact ct_Op_copyMembers_79 fu ((f_Sh_takeFrom fu s a1 a0 (f_Op_numberAt s (2 : Int32)) (f_Op_numberAt s (4 : Int32)) (f_Op_numberAt s (5 : Int32))).2) a0 a1 (f_Op_numberAt s (2 : Int32)) (f_Op_numberAt s (4 : Int32)) (f_Op_numberAt s (5 : Int32)) (b2i (f_Sh_takeFrom fu s a1 a0 (f_Op_numberAt s (2 : Int32)) (f_Op_numberAt s (4 : Int32)) (f_Op_numberAt s (5 : Int32))).1) hw
                · have hw := hw.2 hb
                  refine X_mask [true, false, false, false, false, false, true, true, true, true] ?_
                  exact ct_Op_copyMembers_56 fu s hw
      · have hw := hw.2 hb
        refine X_run 1 (i1 := 26) (L1 := [some (.inr (.inr (some 8))), some (.inr (.inr a0)), some (.inr (.inr a1)), some (.inl (f_Op_numberAt s (2 : Int32))), some (.inl (f_Op_numberAt s (4 : Int32))), some (.inl (f_Op_numberAt s (5 : Int32))), none, none, none, none]) (st1 := [.inr (.inr (some 8))]) rfl ?_
        refine X_gF (v := .inr (.inr (some 1))) rfl rfl rfl rfl ?_
        refine X_run 1 (i1 := 28) (L1 := [some (.inr (.inr (some 8))), some (.inr (.inr a0)), some (.inr (.inr a1)), some (.inl (f_Op_numberAt s (2 : Int32))), some (.inl (f_Op_numberAt s (4 : Int32))), some (.inl (f_Op_numberAt s (5 : Int32))), none, none, none, none]) (st1 := [.inl (5 : Int32), .inr (.inr (some 1))]) rfl ?_
        obtain ⟨hc, hw⟩ := hw
        refine X_callv m_Le_fault (As := [.inl (5 : Int32)]) (st := []) ok_Le_fault rfl rfl rfl (hp_obj rfl) rfl (Nat.le_of_ble_eq_true rfl) (Nat.le_of_ble_eq_true rfl) (c_Le_fault (d := d + 1) s (5 : Int32) hc) ?_
        rintro _ _ ⟨rfl, rfl⟩
        show X _ _ 29 [some (.inr (.inr (some 8))), some (.inr (.inr a0)), some (.inr (.inr a1)), some (.inl (f_Op_numberAt s (2 : Int32))), some (.inl (f_Op_numberAt s (4 : Int32))), some (.inl (f_Op_numberAt s (5 : Int32))), none, none, none, none] [] (hp (f_Le_fault s (5 : Int32))) _
        refine X_run 1 (i1 := 112) (L1 := [some (.inr (.inr (some 8))), some (.inr (.inr a0)), some (.inr (.inr a1)), some (.inl (f_Op_numberAt s (2 : Int32))), some (.inl (f_Op_numberAt s (4 : Int32))), some (.inl (f_Op_numberAt s (5 : Int32))), none, none, none, none]) (st1 := []) rfl ?_
        exact X_ret rfl rfl qVs_i
def t_Op_takeThing_20 (s : St) (v3 : Int32) (v4 : Option Nat) (w0 : Int32) : St := (cond (cn1 .eq w0) s (f_Op_setSlot s (1 : Int32) (aRF (sD s) (gR (sD s) v4 1) (Int32.toNatClampNeg v3))))
def w_Op_takeThing_20 (s : St) (v3 : Int32) (v4 : Option Nat) (w0 : Int32) : Prop := ((cn1 .eq w0) = true → True) ∧ ((cn1 .eq w0) = false → (ob (sD s) v4 7 ∧ (isR (sD s) (gR (sD s) v4 1) ∧ (vp_in v3 (aRN (sD s) (gR (sD s) v4 1)) ∧ (w_Op_setSlot s (1 : Int32) (aRF (sD s) (gR (sD s) v4 1) (Int32.toNatClampNeg v3)) ∧ True)))))
theorem ct_Op_takeThing_20 {d : Nat} (s : St) (v3 : Int32) (v4 : Option Nat) (w0 : Int32) (hw : w_Op_takeThing_20 s v3 v4 w0) : X m_Op_takeThing (d + 3) 20 [some (.inr (.inr (some 8))), none, none, some (.inl v3), some (.inr (.inr v4))] [.inl w0] (hp s) (qVs (t_Op_takeThing_20 s v3 v4 w0)) := by
  unfold t_Op_takeThing_20
  unfold w_Op_takeThing_20 at hw
  refine X_run 1 (i1 := cond (cn1 .eq w0) 28 21) (L1 := [some (.inr (.inr (some 8))), none, none, some (.inl v3), some (.inr (.inr v4))]) (st1 := []) rfl ?_
  refine X_brq (fun hb => ?_) (fun hb => ?_)
  · skip
    exact X_ret rfl rfl qVs_i
  · have hw := hw.2 hb
    refine X_run 3 (i1 := 24) (L1 := [some (.inr (.inr (some 8))), none, none, some (.inl v3), some (.inr (.inr v4))]) (st1 := [.inr (.inr v4), .inl (1 : Int32), .inr (.inr (some 8))]) rfl ?_
    obtain ⟨hc, hw⟩ := hw
    refine X_dR rfl hc rfl ?_
    show X _ _ 25 [some (.inr (.inr (some 8))), none, none, some (.inl v3), some (.inr (.inr v4))] [.inr (.inr (gR (sD s) v4 1)), .inl (1 : Int32), .inr (.inr (some 8))] (hp s) _
    refine X_run 1 (i1 := 26) (L1 := [some (.inr (.inr (some 8))), none, none, some (.inl v3), some (.inr (.inr v4))]) (st1 := [.inl v3, .inr (.inr (gR (sD s) v4 1)), .inl (1 : Int32), .inr (.inr (some 8))]) rfl ?_
    obtain ⟨hc, hw⟩ := hw
    obtain ⟨hin, hw⟩ := hw
    refine X_daR rfl hc hin ?_
    show X _ _ 27 [some (.inr (.inr (some 8))), none, none, some (.inl v3), some (.inr (.inr v4))] [.inr (.inr (aRF (sD s) (gR (sD s) v4 1) (Int32.toNatClampNeg v3))), .inl (1 : Int32), .inr (.inr (some 8))] (hp s) _
    obtain ⟨hc, hw⟩ := hw
    refine X_callv m_Op_setSlot (As := [.inl (1 : Int32), .inr (.inr (aRF (sD s) (gR (sD s) v4 1) (Int32.toNatClampNeg v3)))]) (st := []) ok_Op_setSlot rfl rfl rfl (hp_obj rfl) rfl (Nat.le_of_ble_eq_true rfl) (Nat.le_of_ble_eq_true rfl) (c_Op_setSlot (d := d + 1) s (1 : Int32) (aRF (sD s) (gR (sD s) v4 1) (Int32.toNatClampNeg v3)) hc) ?_
    rintro _ _ ⟨rfl, rfl⟩
    show X _ _ 28 [some (.inr (.inr (some 8))), none, none, some (.inl v3), some (.inr (.inr v4))] [] (hp (f_Op_setSlot s (1 : Int32) (aRF (sD s) (gR (sD s) v4 1) (Int32.toNatClampNeg v3)))) _
    exact X_ret rfl rfl qVs_i
def t_Op_takeThing_10 (s : St) (v2 : Option Nat) : St := (f_Op_miss s v2)
def w_Op_takeThing_10 (s : St) (v2 : Option Nat) : Prop := (w_Op_miss s v2 ∧ True)
theorem ct_Op_takeThing_10 {d : Nat} (s : St) (v2 : Option Nat) (hw : w_Op_takeThing_10 s v2) : X m_Op_takeThing (d + 3) 10 [some (.inr (.inr (some 8))), none, some (.inr (.inr v2)), none, none] [] (hp s) (qVs (t_Op_takeThing_10 s v2)) := by
  unfold t_Op_takeThing_10
  unfold w_Op_takeThing_10 at hw
  refine X_run 2 (i1 := 12) (L1 := [some (.inr (.inr (some 8))), none, some (.inr (.inr v2)), none, none]) (st1 := [.inr (.inr v2), .inr (.inr (some 8))]) rfl ?_
  obtain ⟨hc, hw⟩ := hw
  refine X_callv m_Op_miss (As := [.inr (.inr v2)]) (st := []) ok_Op_miss rfl rfl rfl (hp_obj rfl) rfl (Nat.le_of_ble_eq_true rfl) (Nat.le_of_ble_eq_true rfl) (c_Op_miss (d := d) s v2 hc) ?_
  rintro _ _ ⟨rfl, rfl⟩
  show X _ _ 13 [some (.inr (.inr (some 8))), none, some (.inr (.inr v2)), none, none] [] (hp (f_Op_miss s v2)) _
  refine X_run 1 (i1 := 28) (L1 := [some (.inr (.inr (some 8))), none, some (.inr (.inr v2)), none, none]) (st1 := []) rfl ?_
  exact X_ret rfl rfl qVs_i
def f_Op_takeThing (s : St) (a0 : Int32) (a1 : Option Nat) (a2 : Int32) : St := (cond (cn1 .eq (b2i (isc (sD s) a1 2))) (t_Op_takeThing_10 s a1) (cond (cn2 .eq (f_Sh_kind s a1) a0) (t_Op_takeThing_20 ((f_Op_isWithin s a2 (Int32.ofNat (aRN (sD s) (gR (sD s) a1 1)))).2) a2 a1 (b2i (f_Op_isWithin s a2 (Int32.ofNat (aRN (sD s) (gR (sD s) a1 1)))).1)) (t_Op_takeThing_10 s a1)))
def w_Op_takeThing (s : St) (a0 : Int32) (a1 : Option Nat) (a2 : Int32) : Prop := (tho (sD s) a1 ∧ ((cn1 .eq (b2i (isc (sD s) a1 2))) = true → (w_Op_takeThing_10 s a1)) ∧ ((cn1 .eq (b2i (isc (sD s) a1 2))) = false → (cst (sD s) a1 2 ∧ (w_Sh_kind s a1 ∧ (oC (sD s) a1 = some 7 ∧ ((cn2 .eq (f_Sh_kind s a1) a0) = true → (ob (sD s) a1 7 ∧ (isR (sD s) (gR (sD s) a1 1) ∧ (w_Op_isWithin s a2 (Int32.ofNat (aRN (sD s) (gR (sD s) a1 1))) ∧ (w_Op_takeThing_20 ((f_Op_isWithin s a2 (Int32.ofNat (aRN (sD s) (gR (sD s) a1 1)))).2) a2 a1 (b2i (f_Op_isWithin s a2 (Int32.ofNat (aRN (sD s) (gR (sD s) a1 1)))).1)))))) ∧ ((cn2 .eq (f_Sh_kind s a1) a0) = false → (w_Op_takeThing_10 s a1)))))))
theorem c_Op_takeThing {d : Nat} (s : St) (a0 : Int32) (a1 : Option Nat) (a2 : Int32) (hw : w_Op_takeThing s a0 a1 a2) : X m_Op_takeThing (d + 3) 0 (entL 5 [.inr (.inr (some 8)), .inl a0, .inr (.inr a1), .inl a2]) [] (hp s) (qVs (f_Op_takeThing s a0 a1 a2)) := by
  unfold f_Op_takeThing
  unfold w_Op_takeThing at hw
  refine X_run 1 (i1 := 1) (L1 := [some (.inr (.inr (some 8))), some (.inl a0), some (.inr (.inr a1)), some (.inl a2), none]) (st1 := [.inr (.inr a1)]) rfl ?_
  obtain ⟨hc, hw⟩ := hw
  refine X_dinst rfl (by decide) hc ?_
  show X _ _ 2 [some (.inr (.inr (some 8))), some (.inl a0), some (.inr (.inr a1)), some (.inl a2), none] [.inl (b2i (isc (sD s) a1 2))] (hp s) _
  refine X_run 1 (i1 := cond (cn1 .eq (b2i (isc (sD s) a1 2))) 10 3) (L1 := [some (.inr (.inr (some 8))), some (.inl a0), some (.inr (.inr a1)), some (.inl a2), none]) (st1 := []) rfl ?_
  refine X_brq (fun hb => ?_) (fun hb => ?_)
  · have hw := hw.1 hb
    refine X_mask [true, false, true, false, true] ?_
    exact ct_Op_takeThing_10 s a1 hw
  · have hw := hw.2 hb
    refine X_run 1 (i1 := 4) (L1 := [some (.inr (.inr (some 8))), some (.inl a0), some (.inr (.inr a1)), some (.inl a2), none]) (st1 := [.inr (.inr a1)]) rfl ?_
    obtain ⟨hc, hw⟩ := hw
    refine X_dcast rfl hc ?_
    refine X_run 2 (i1 := 7) (L1 := [some (.inr (.inr (some 8))), some (.inl a0), some (.inr (.inr a1)), some (.inl a2), some (.inr (.inr a1))]) (st1 := [.inr (.inr a1)]) rfl ?_
    obtain ⟨hc, hw⟩ := hw
    obtain ⟨hr, hw⟩ := hw
    refine X_dcallv m_Sh_kind (As := []) (st := []) ok_Sh_kind rfl rfl rfl hr rfl (Nat.le_of_ble_eq_true rfl) (Nat.le_of_ble_eq_true rfl) (c_Sh_kind (d := d + 2) s a1 hc) ?_
    rintro _ _ ⟨rfl, rfl⟩
    show X _ _ 8 [some (.inr (.inr (some 8))), some (.inl a0), some (.inr (.inr a1)), some (.inl a2), some (.inr (.inr a1))] [.inl (f_Sh_kind s a1)] (hp s) _
    refine X_run 2 (i1 := cond (cn2 .eq (f_Sh_kind s a1) a0) 14 10) (L1 := [some (.inr (.inr (some 8))), some (.inl a0), some (.inr (.inr a1)), some (.inl a2), some (.inr (.inr a1))]) (st1 := []) rfl ?_
    refine X_brq (fun hb => ?_) (fun hb => ?_)
    · have hw := hw.1 hb
      refine X_run 3 (i1 := 17) (L1 := [some (.inr (.inr (some 8))), some (.inl a0), some (.inr (.inr a1)), some (.inl a2), some (.inr (.inr a1))]) (st1 := [.inr (.inr a1), .inl a2, .inr (.inr (some 8))]) rfl ?_
      obtain ⟨hc, hw⟩ := hw
      refine X_dR rfl hc rfl ?_
      show X _ _ 18 [some (.inr (.inr (some 8))), some (.inl a0), some (.inr (.inr a1)), some (.inl a2), some (.inr (.inr a1))] [.inr (.inr (gR (sD s) a1 1)), .inl a2, .inr (.inr (some 8))] (hp s) _
      obtain ⟨hc, hw⟩ := hw
      refine X_drlen rfl hc ?_
      show X _ _ 19 [some (.inr (.inr (some 8))), some (.inl a0), some (.inr (.inr a1)), some (.inl a2), some (.inr (.inr a1))] [.inl (Int32.ofNat (aRN (sD s) (gR (sD s) a1 1))), .inl a2, .inr (.inr (some 8))] (hp s) _
      obtain ⟨hc, hw⟩ := hw
      refine X_callv m_Op_isWithin (As := [.inl a2, .inl (Int32.ofNat (aRN (sD s) (gR (sD s) a1 1)))]) (st := []) ok_Op_isWithin rfl rfl rfl (hp_obj rfl) rfl (Nat.le_of_ble_eq_true rfl) (Nat.le_of_ble_eq_true rfl) (c_Op_isWithin (d := d) s a2 (Int32.ofNat (aRN (sD s) (gR (sD s) a1 1))) hc) ?_
      rintro _ _ ⟨rfl, rfl⟩
      show X _ _ 20 [some (.inr (.inr (some 8))), some (.inl a0), some (.inr (.inr a1)), some (.inl a2), some (.inr (.inr a1))] [.inl (b2i (f_Op_isWithin s a2 (Int32.ofNat (aRN (sD s) (gR (sD s) a1 1)))).1)] (hp ((f_Op_isWithin s a2 (Int32.ofNat (aRN (sD s) (gR (sD s) a1 1)))).2)) _
      show X _ _ 20 [some (.inr (.inr (some 8))), some (.inl a0), some (.inr (.inr a1)), some (.inl a2), some (.inr (.inr a1))] [.inl (b2i (f_Op_isWithin s a2 (Int32.ofNat (aRN (sD s) (gR (sD s) a1 1)))).1)] (hp ((f_Op_isWithin s a2 (Int32.ofNat (aRN (sD s) (gR (sD s) a1 1)))).2)) _
      refine X_mask [true, false, false, true, true] ?_
      exact ct_Op_takeThing_20 ((f_Op_isWithin s a2 (Int32.ofNat (aRN (sD s) (gR (sD s) a1 1)))).2) a2 a1 (b2i (f_Op_isWithin s a2 (Int32.ofNat (aRN (sD s) (gR (sD s) a1 1)))).1) hw
    · have hw := hw.2 hb
      refine X_mask [true, false, true, false, false] ?_
      exact ct_Op_takeThing_10 s a1 hw
def t_Op_putThing_48 (s : St) (v3 : Int32) (v4 : Option Nat) (v6 : Option Nat) (w0 : Int32) : St := (cond (cn1 .eq w0) s (cond (cn1 .eq (f_Sh_refusal s v6 v4)) (pQ s (dR (sD s) (gR (sD s) v6 1) (va_up (aRF (sD s) (gR (sD s) v6 1)) (Int32.toNatClampNeg v3) v4)) (sN s) (sU s)) (f_Le_fault s (f_Sh_refusal s v6 v4))))
def w_Op_putThing_48 (s : St) (v3 : Int32) (v4 : Option Nat) (v6 : Option Nat) (w0 : Int32) : Prop := ((cn1 .eq w0) = true → True) ∧ ((cn1 .eq w0) = false → (w_Sh_refusal s v6 v4 ∧ (oC (sD s) v6 = some 7 ∧ ((cn1 .eq (f_Sh_refusal s v6 v4)) = true → (ob (sD s) v6 7 ∧ (isR (sD s) (gR (sD s) v6 1) ∧ (vp_in v3 (aRN (sD s) (gR (sD s) v6 1)) ∧ (tho (sD s) v4 ∧ True))))) ∧ ((cn1 .eq (f_Sh_refusal s v6 v4)) = false → (w_Sh_refusal s v6 v4 ∧ (oC (sD s) v6 = some 7 ∧ (w_Le_fault s (f_Sh_refusal s v6 v4) ∧ True)))))))
theorem ct_Op_putThing_48 {d : Nat} (s : St) (v3 : Int32) (v4 : Option Nat) (v6 : Option Nat) (w0 : Int32) (hw : w_Op_putThing_48 s v3 v4 v6 w0) : X m_Op_putThing (d + 3) 48 [some (.inr (.inr (some 8))), none, none, some (.inl v3), some (.inr (.inr v4)), none, some (.inr (.inr v6))] [.inl w0] (hp s) (qVs (t_Op_putThing_48 s v3 v4 v6 w0)) := by
  unfold t_Op_putThing_48
  unfold w_Op_putThing_48 at hw
  refine X_run 1 (i1 := cond (cn1 .eq w0) 65 49) (L1 := [some (.inr (.inr (some 8))), none, none, some (.inl v3), some (.inr (.inr v4)), none, some (.inr (.inr v6))]) (st1 := []) rfl ?_
  refine X_brq (fun hb => ?_) (fun hb => ?_)
  · skip
    exact X_ret rfl rfl qVs_i
  · have hw := hw.2 hb
    refine X_run 2 (i1 := 51) (L1 := [some (.inr (.inr (some 8))), none, none, some (.inl v3), some (.inr (.inr v4)), none, some (.inr (.inr v6))]) (st1 := [.inr (.inr v4), .inr (.inr v6)]) rfl ?_
    obtain ⟨hc, hw⟩ := hw
    obtain ⟨hr, hw⟩ := hw
    refine X_dcallv m_Sh_refusal (As := [.inr (.inr v4)]) (st := []) ok_Sh_refusal rfl rfl rfl hr rfl (Nat.le_of_ble_eq_true rfl) (Nat.le_of_ble_eq_true rfl) (c_Sh_refusal (d := d + 1) s v6 v4 hc) ?_
    rintro _ _ ⟨rfl, rfl⟩
    show X _ _ 52 [some (.inr (.inr (some 8))), none, none, some (.inl v3), some (.inr (.inr v4)), none, some (.inr (.inr v6))] [.inl (f_Sh_refusal s v6 v4)] (hp s) _
    refine X_run 1 (i1 := cond (cn1 .eq (f_Sh_refusal s v6 v4)) 60 53) (L1 := [some (.inr (.inr (some 8))), none, none, some (.inl v3), some (.inr (.inr v4)), none, some (.inr (.inr v6))]) (st1 := []) rfl ?_
    refine X_brq (fun hb => ?_) (fun hb => ?_)
    · have hw := hw.1 hb
      refine X_run 1 (i1 := 61) (L1 := [some (.inr (.inr (some 8))), none, none, some (.inl v3), some (.inr (.inr v4)), none, some (.inr (.inr v6))]) (st1 := [.inr (.inr v6)]) rfl ?_
      obtain ⟨hc, hw⟩ := hw
      refine X_dR rfl hc rfl ?_
      show X _ _ 62 [some (.inr (.inr (some 8))), none, none, some (.inl v3), some (.inr (.inr v4)), none, some (.inr (.inr v6))] [.inr (.inr (gR (sD s) v6 1))] (hp s) _
      refine X_run 2 (i1 := 64) (L1 := [some (.inr (.inr (some 8))), none, none, some (.inl v3), some (.inr (.inr v4)), none, some (.inr (.inr v6))]) (st1 := [.inr (.inr v4), .inl v3, .inr (.inr (gR (sD s) v6 1))]) rfl ?_
      obtain ⟨hc, hw⟩ := hw
      obtain ⟨hin, hw⟩ := hw
      obtain ⟨hv, hw⟩ := hw
      refine X_dsR rfl hc hin hv ?_
      show X _ _ 65 [some (.inr (.inr (some 8))), none, none, some (.inl v3), some (.inr (.inr v4)), none, some (.inr (.inr v6))] [] (hp (pQ s (dR (sD s) (gR (sD s) v6 1) (va_up (aRF (sD s) (gR (sD s) v6 1)) (Int32.toNatClampNeg v3) v4)) (sN s) (sU s))) _
      exact X_ret rfl rfl qVs_i
    · have hw := hw.2 hb
      refine X_run 1 (i1 := 54) (L1 := [some (.inr (.inr (some 8))), none, none, some (.inl v3), some (.inr (.inr v4)), none, some (.inr (.inr v6))]) (st1 := [.inr (.inr (some 8))]) rfl ?_
      refine X_gF (v := .inr (.inr (some 1))) rfl rfl rfl rfl ?_
      refine X_run 2 (i1 := 57) (L1 := [some (.inr (.inr (some 8))), none, none, some (.inl v3), some (.inr (.inr v4)), none, some (.inr (.inr v6))]) (st1 := [.inr (.inr v4), .inr (.inr v6), .inr (.inr (some 1))]) rfl ?_
      obtain ⟨hc, hw⟩ := hw
      obtain ⟨hr, hw⟩ := hw
      refine X_dcallv m_Sh_refusal (As := [.inr (.inr v4)]) (st := [.inr (.inr (some 1))]) ok_Sh_refusal rfl rfl rfl hr rfl (Nat.le_of_ble_eq_true rfl) (Nat.le_of_ble_eq_true rfl) (c_Sh_refusal (d := d + 1) s v6 v4 hc) ?_
      rintro _ _ ⟨rfl, rfl⟩
      show X _ _ 58 [some (.inr (.inr (some 8))), none, none, some (.inl v3), some (.inr (.inr v4)), none, some (.inr (.inr v6))] [.inl (f_Sh_refusal s v6 v4), .inr (.inr (some 1))] (hp s) _
      obtain ⟨hc, hw⟩ := hw
      refine X_callv m_Le_fault (As := [.inl (f_Sh_refusal s v6 v4)]) (st := []) ok_Le_fault rfl rfl rfl (hp_obj rfl) rfl (Nat.le_of_ble_eq_true rfl) (Nat.le_of_ble_eq_true rfl) (c_Le_fault (d := d + 1) s (f_Sh_refusal s v6 v4) hc) ?_
      rintro _ _ ⟨rfl, rfl⟩
      show X _ _ 59 [some (.inr (.inr (some 8))), none, none, some (.inl v3), some (.inr (.inr v4)), none, some (.inr (.inr v6))] [] (hp (f_Le_fault s (f_Sh_refusal s v6 v4))) _
      refine X_run 1 (i1 := 65) (L1 := [some (.inr (.inr (some 8))), none, none, some (.inl v3), some (.inr (.inr v4)), none, some (.inr (.inr v6))]) (st1 := []) rfl ?_
      exact X_ret rfl rfl qVs_i
def t_Op_putThing_25 (s : St) : St := (f_Le_fault s (4 : Int32))
def w_Op_putThing_25 (s : St) : Prop := (w_Le_fault s (4 : Int32) ∧ True)
theorem ct_Op_putThing_25 {d : Nat} (s : St) (hw : w_Op_putThing_25 s) : X m_Op_putThing (d + 3) 25 [some (.inr (.inr (some 8))), none, none, none, none, none, none] [] (hp s) (qVs (t_Op_putThing_25 s)) := by
  unfold t_Op_putThing_25
  unfold w_Op_putThing_25 at hw
  refine X_run 1 (i1 := 26) (L1 := [some (.inr (.inr (some 8))), none, none, none, none, none, none]) (st1 := [.inr (.inr (some 8))]) rfl ?_
  refine X_gF (v := .inr (.inr (some 1))) rfl rfl rfl rfl ?_
  refine X_run 1 (i1 := 28) (L1 := [some (.inr (.inr (some 8))), none, none, none, none, none, none]) (st1 := [.inl (4 : Int32), .inr (.inr (some 1))]) rfl ?_
  obtain ⟨hc, hw⟩ := hw
  refine X_callv m_Le_fault (As := [.inl (4 : Int32)]) (st := []) ok_Le_fault rfl rfl rfl (hp_obj rfl) rfl (Nat.le_of_ble_eq_true rfl) (Nat.le_of_ble_eq_true rfl) (c_Le_fault (d := d + 1) s (4 : Int32) hc) ?_
  rintro _ _ ⟨rfl, rfl⟩
  show X _ _ 29 [some (.inr (.inr (some 8))), none, none, none, none, none, none] [] (hp (f_Le_fault s (4 : Int32))) _
  refine X_run 1 (i1 := 65) (L1 := [some (.inr (.inr (some 8))), none, none, none, none, none, none]) (st1 := []) rfl ?_
  exact X_ret rfl rfl qVs_i
def t_Op_putThing_23 (s : St) (v2 : Option Nat) (v3 : Int32) (v4 : Option Nat) (v5 : Int32) : St := (cond (cn1 .ne v5) (cond (cn1 .eq (b2i (isc (sD s) v2 2))) (f_Le_fault s (1 : Int32)) (t_Op_putThing_48 ((f_Op_isWithin s v3 (Int32.ofNat (aRN (sD s) (gR (sD s) v2 1)))).2) v3 v4 v2 (b2i (f_Op_isWithin s v3 (Int32.ofNat (aRN (sD s) (gR (sD s) v2 1)))).1))) (t_Op_putThing_25 s))
def w_Op_putThing_23 (s : St) (v2 : Option Nat) (v3 : Int32) (v4 : Option Nat) (v5 : Int32) : Prop := ((cn1 .ne v5) = true → (tho (sD s) v2 ∧ ((cn1 .eq (b2i (isc (sD s) v2 2))) = true → (w_Le_fault s (1 : Int32) ∧ True)) ∧ ((cn1 .eq (b2i (isc (sD s) v2 2))) = false → (cst (sD s) v2 2 ∧ (ob (sD s) v2 7 ∧ (isR (sD s) (gR (sD s) v2 1) ∧ (w_Op_isWithin s v3 (Int32.ofNat (aRN (sD s) (gR (sD s) v2 1))) ∧ (w_Op_putThing_48 ((f_Op_isWithin s v3 (Int32.ofNat (aRN (sD s) (gR (sD s) v2 1)))).2) v3 v4 v2 (b2i (f_Op_isWithin s v3 (Int32.ofNat (aRN (sD s) (gR (sD s) v2 1)))).1))))))))) ∧ ((cn1 .ne v5) = false → (w_Op_putThing_25 s))
theorem ct_Op_putThing_23 {d : Nat} (s : St) (v2 : Option Nat) (v3 : Int32) (v4 : Option Nat) (v5 : Int32) (hw : w_Op_putThing_23 s v2 v3 v4 v5) : X m_Op_putThing (d + 3) 23 [some (.inr (.inr (some 8))), none, some (.inr (.inr v2)), some (.inl v3), some (.inr (.inr v4)), some (.inl v5), none] [] (hp s) (qVs (t_Op_putThing_23 s v2 v3 v4 v5)) := by
  unfold t_Op_putThing_23
  unfold w_Op_putThing_23 at hw
  refine X_run 2 (i1 := cond (cn1 .ne v5) 30 25) (L1 := [some (.inr (.inr (some 8))), none, some (.inr (.inr v2)), some (.inl v3), some (.inr (.inr v4)), some (.inl v5), none]) (st1 := []) rfl ?_
  refine X_brq (fun hb => ?_) (fun hb => ?_)
  · have hw := hw.1 hb
    refine X_run 1 (i1 := 31) (L1 := [some (.inr (.inr (some 8))), none, some (.inr (.inr v2)), some (.inl v3), some (.inr (.inr v4)), some (.inl v5), none]) (st1 := [.inr (.inr v2)]) rfl ?_
    obtain ⟨hc, hw⟩ := hw
    refine X_dinst rfl (by decide) hc ?_
    show X _ _ 32 [some (.inr (.inr (some 8))), none, some (.inr (.inr v2)), some (.inl v3), some (.inr (.inr v4)), some (.inl v5), none] [.inl (b2i (isc (sD s) v2 2))] (hp s) _
    refine X_run 1 (i1 := cond (cn1 .eq (b2i (isc (sD s) v2 2))) 37 33) (L1 := [some (.inr (.inr (some 8))), none, some (.inr (.inr v2)), some (.inl v3), some (.inr (.inr v4)), some (.inl v5), none]) (st1 := []) rfl ?_
    refine X_brq (fun hb => ?_) (fun hb => ?_)
    · have hw := hw.1 hb
      refine X_run 1 (i1 := 38) (L1 := [some (.inr (.inr (some 8))), none, some (.inr (.inr v2)), some (.inl v3), some (.inr (.inr v4)), some (.inl v5), none]) (st1 := [.inr (.inr (some 8))]) rfl ?_
      refine X_gF (v := .inr (.inr (some 1))) rfl rfl rfl rfl ?_
      refine X_run 1 (i1 := 40) (L1 := [some (.inr (.inr (some 8))), none, some (.inr (.inr v2)), some (.inl v3), some (.inr (.inr v4)), some (.inl v5), none]) (st1 := [.inl (1 : Int32), .inr (.inr (some 1))]) rfl ?_
      obtain ⟨hc, hw⟩ := hw
      refine X_callv m_Le_fault (As := [.inl (1 : Int32)]) (st := []) ok_Le_fault rfl rfl rfl (hp_obj rfl) rfl (Nat.le_of_ble_eq_true rfl) (Nat.le_of_ble_eq_true rfl) (c_Le_fault (d := d + 1) s (1 : Int32) hc) ?_
      rintro _ _ ⟨rfl, rfl⟩
      show X _ _ 41 [some (.inr (.inr (some 8))), none, some (.inr (.inr v2)), some (.inl v3), some (.inr (.inr v4)), some (.inl v5), none] [] (hp (f_Le_fault s (1 : Int32))) _
      refine X_run 1 (i1 := 65) (L1 := [some (.inr (.inr (some 8))), none, some (.inr (.inr v2)), some (.inl v3), some (.inr (.inr v4)), some (.inl v5), none]) (st1 := []) rfl ?_
      exact X_ret rfl rfl qVs_i
    · have hw := hw.2 hb
      refine X_run 1 (i1 := 34) (L1 := [some (.inr (.inr (some 8))), none, some (.inr (.inr v2)), some (.inl v3), some (.inr (.inr v4)), some (.inl v5), none]) (st1 := [.inr (.inr v2)]) rfl ?_
      obtain ⟨hc, hw⟩ := hw
      refine X_dcast rfl hc ?_
      refine X_run 5 (i1 := 45) (L1 := [some (.inr (.inr (some 8))), none, some (.inr (.inr v2)), some (.inl v3), some (.inr (.inr v4)), some (.inl v5), some (.inr (.inr v2))]) (st1 := [.inr (.inr v2), .inl v3, .inr (.inr (some 8))]) rfl ?_
      obtain ⟨hc, hw⟩ := hw
      refine X_dR rfl hc rfl ?_
      show X _ _ 46 [some (.inr (.inr (some 8))), none, some (.inr (.inr v2)), some (.inl v3), some (.inr (.inr v4)), some (.inl v5), some (.inr (.inr v2))] [.inr (.inr (gR (sD s) v2 1)), .inl v3, .inr (.inr (some 8))] (hp s) _
      obtain ⟨hc, hw⟩ := hw
      refine X_drlen rfl hc ?_
      show X _ _ 47 [some (.inr (.inr (some 8))), none, some (.inr (.inr v2)), some (.inl v3), some (.inr (.inr v4)), some (.inl v5), some (.inr (.inr v2))] [.inl (Int32.ofNat (aRN (sD s) (gR (sD s) v2 1))), .inl v3, .inr (.inr (some 8))] (hp s) _
      obtain ⟨hc, hw⟩ := hw
      refine X_callv m_Op_isWithin (As := [.inl v3, .inl (Int32.ofNat (aRN (sD s) (gR (sD s) v2 1)))]) (st := []) ok_Op_isWithin rfl rfl rfl (hp_obj rfl) rfl (Nat.le_of_ble_eq_true rfl) (Nat.le_of_ble_eq_true rfl) (c_Op_isWithin (d := d) s v3 (Int32.ofNat (aRN (sD s) (gR (sD s) v2 1))) hc) ?_
      rintro _ _ ⟨rfl, rfl⟩
      show X _ _ 48 [some (.inr (.inr (some 8))), none, some (.inr (.inr v2)), some (.inl v3), some (.inr (.inr v4)), some (.inl v5), some (.inr (.inr v2))] [.inl (b2i (f_Op_isWithin s v3 (Int32.ofNat (aRN (sD s) (gR (sD s) v2 1)))).1)] (hp ((f_Op_isWithin s v3 (Int32.ofNat (aRN (sD s) (gR (sD s) v2 1)))).2)) _
      show X _ _ 48 [some (.inr (.inr (some 8))), none, some (.inr (.inr v2)), some (.inl v3), some (.inr (.inr v4)), some (.inl v5), some (.inr (.inr v2))] [.inl (b2i (f_Op_isWithin s v3 (Int32.ofNat (aRN (sD s) (gR (sD s) v2 1)))).1)] (hp ((f_Op_isWithin s v3 (Int32.ofNat (aRN (sD s) (gR (sD s) v2 1)))).2)) _
      refine X_mask [true, true, false, true, true, false, true] ?_
      exact ct_Op_putThing_48 ((f_Op_isWithin s v3 (Int32.ofNat (aRN (sD s) (gR (sD s) v2 1)))).2) v3 v4 v2 (b2i (f_Op_isWithin s v3 (Int32.ofNat (aRN (sD s) (gR (sD s) v2 1)))).1) hw
  · have hw := hw.2 hb
    refine X_mask [true, true, false, false, false, false, true] ?_
    exact ct_Op_putThing_25 s hw
def t_Op_putThing_16 (s : St) (v1 : Int32) (v2 : Option Nat) (v3 : Int32) (v4 : Option Nat) (w0 : Int32) : St := (cond (Option.isNone v2) (t_Op_putThing_23 s v2 v3 v4 w0) (cond (cn2 .ne (u_kind s v2) v1) (t_Op_putThing_25 s) (t_Op_putThing_23 s v2 v3 v4 w0)))
def w_Op_putThing_16 (s : St) (v1 : Int32) (v2 : Option Nat) (v3 : Int32) (v4 : Option Nat) (w0 : Int32) : Prop := ((Option.isNone v2) = true → (w_Op_putThing_23 s v2 v3 v4 w0)) ∧ ((Option.isNone v2) = false → (wu_kind s v2 ∧ ((cn2 .ne (u_kind s v2) v1) = true → (w_Op_putThing_25 s)) ∧ ((cn2 .ne (u_kind s v2) v1) = false → (w_Op_putThing_23 s v2 v3 v4 w0))))
theorem ct_Op_putThing_16 {d : Nat} (s : St) (v1 : Int32) (v2 : Option Nat) (v3 : Int32) (v4 : Option Nat) (w0 : Int32) (hw : w_Op_putThing_16 s v1 v2 v3 v4 w0) : X m_Op_putThing (d + 3) 16 [some (.inr (.inr (some 8))), some (.inl v1), some (.inr (.inr v2)), some (.inl v3), some (.inr (.inr v4)), none, none] [.inl w0] (hp s) (qVs (t_Op_putThing_16 s v1 v2 v3 v4 w0)) := by
  unfold t_Op_putThing_16
  unfold w_Op_putThing_16 at hw
  refine X_run 3 (i1 := cond (Option.isNone v2) 23 19) (L1 := [some (.inr (.inr (some 8))), some (.inl v1), some (.inr (.inr v2)), some (.inl v3), some (.inr (.inr v4)), some (.inl w0), none]) (st1 := []) rfl ?_
  refine X_brq (fun hb => ?_) (fun hb => ?_)
  · have hw := hw.1 hb
    refine X_mask [true, false, true, true, true, true, true] ?_
    exact ct_Op_putThing_23 s v2 v3 v4 w0 hw
  · have hw := hw.2 hb
    refine X_run 1 (i1 := 20) (L1 := [some (.inr (.inr (some 8))), some (.inl v1), some (.inr (.inr v2)), some (.inl v3), some (.inr (.inr v4)), some (.inl w0), none]) (st1 := [.inr (.inr v2)]) rfl ?_
    obtain ⟨hc, hw⟩ := hw
    refine X_ukind (d := d + 2) rfl (Nat.le_of_ble_eq_true rfl) hc ?_
    show X _ _ 21 [some (.inr (.inr (some 8))), some (.inl v1), some (.inr (.inr v2)), some (.inl v3), some (.inr (.inr v4)), some (.inl w0), none] [.inl (u_kind s v2)] (hp s) _
    refine X_run 2 (i1 := cond (cn2 .ne (u_kind s v2) v1) 25 23) (L1 := [some (.inr (.inr (some 8))), some (.inl v1), some (.inr (.inr v2)), some (.inl v3), some (.inr (.inr v4)), some (.inl w0), none]) (st1 := []) rfl ?_
    refine X_brq (fun hb => ?_) (fun hb => ?_)
    · have hw := hw.1 hb
      refine X_mask [true, false, false, false, false, false, true] ?_
      exact ct_Op_putThing_25 s hw
    · have hw := hw.2 hb
      refine X_mask [true, false, true, true, true, true, true] ?_
      exact ct_Op_putThing_23 s v2 v3 v4 w0 hw
def t_Op_putThing_15 (s : St) (v1 : Int32) (v2 : Option Nat) (v3 : Int32) (v4 : Option Nat) : St := (t_Op_putThing_16 s v1 v2 v3 v4 (0 : Int32))
def w_Op_putThing_15 (s : St) (v1 : Int32) (v2 : Option Nat) (v3 : Int32) (v4 : Option Nat) : Prop := (w_Op_putThing_16 s v1 v2 v3 v4 (0 : Int32))
theorem ct_Op_putThing_15 {d : Nat} (s : St) (v1 : Int32) (v2 : Option Nat) (v3 : Int32) (v4 : Option Nat) (hw : w_Op_putThing_15 s v1 v2 v3 v4) : X m_Op_putThing (d + 3) 15 [some (.inr (.inr (some 8))), some (.inl v1), some (.inr (.inr v2)), some (.inl v3), some (.inr (.inr v4)), none, none] [] (hp s) (qVs (t_Op_putThing_15 s v1 v2 v3 v4)) := by
  unfold t_Op_putThing_15
  unfold w_Op_putThing_15 at hw
  refine X_run 1 (i1 := 16) (L1 := [some (.inr (.inr (some 8))), some (.inl v1), some (.inr (.inr v2)), some (.inl v3), some (.inr (.inr v4)), none, none]) (st1 := [.inl (0 : Int32)]) rfl ?_
  exact ct_Op_putThing_16 s v1 v2 v3 v4 (0 : Int32) hw
def t_Op_putThing_13 (s : St) (v1 : Int32) (v2 : Option Nat) (v3 : Int32) (v4 : Option Nat) : St := (t_Op_putThing_16 s v1 v2 v3 v4 (1 : Int32))
def w_Op_putThing_13 (s : St) (v1 : Int32) (v2 : Option Nat) (v3 : Int32) (v4 : Option Nat) : Prop := (w_Op_putThing_16 s v1 v2 v3 v4 (1 : Int32))
theorem ct_Op_putThing_13 {d : Nat} (s : St) (v1 : Int32) (v2 : Option Nat) (v3 : Int32) (v4 : Option Nat) (hw : w_Op_putThing_13 s v1 v2 v3 v4) : X m_Op_putThing (d + 3) 13 [some (.inr (.inr (some 8))), some (.inl v1), some (.inr (.inr v2)), some (.inl v3), some (.inr (.inr v4)), none, none] [] (hp s) (qVs (t_Op_putThing_13 s v1 v2 v3 v4)) := by
  unfold t_Op_putThing_13
  unfold w_Op_putThing_13 at hw
  refine X_run 2 (i1 := 16) (L1 := [some (.inr (.inr (some 8))), some (.inl v1), some (.inr (.inr v2)), some (.inl v3), some (.inr (.inr v4)), none, none]) (st1 := [.inl (1 : Int32)]) rfl ?_
  exact ct_Op_putThing_16 s v1 v2 v3 v4 (1 : Int32) hw
def f_Op_putThing (s : St) (a0 : Int32) (a1 : Option Nat) (a2 : Int32) (a3 : Option Nat) : St := (cond (Option.isNone a3) (t_Op_putThing_13 s a0 a1 a2 a3) (cond (cn2 .ne a0 (9 : Int32)) (cond (cn1 .eq (b2i (isc (sD s) a3 0))) (t_Op_putThing_15 s a0 a1 a2 a3) (t_Op_putThing_13 s a0 a1 a2 a3)) (cond (cn2 .ne (u_kind s a3) (4 : Int32)) (t_Op_putThing_15 s a0 a1 a2 a3) (t_Op_putThing_13 s a0 a1 a2 a3))))
def w_Op_putThing (s : St) (a0 : Int32) (a1 : Option Nat) (a2 : Int32) (a3 : Option Nat) : Prop := ((Option.isNone a3) = true → (w_Op_putThing_13 s a0 a1 a2 a3)) ∧ ((Option.isNone a3) = false → ((cn2 .ne a0 (9 : Int32)) = true → (tho (sD s) a3 ∧ ((cn1 .eq (b2i (isc (sD s) a3 0))) = true → (w_Op_putThing_15 s a0 a1 a2 a3)) ∧ ((cn1 .eq (b2i (isc (sD s) a3 0))) = false → (w_Op_putThing_13 s a0 a1 a2 a3)))) ∧ ((cn2 .ne a0 (9 : Int32)) = false → (wu_kind s a3 ∧ ((cn2 .ne (u_kind s a3) (4 : Int32)) = true → (w_Op_putThing_15 s a0 a1 a2 a3)) ∧ ((cn2 .ne (u_kind s a3) (4 : Int32)) = false → (w_Op_putThing_13 s a0 a1 a2 a3)))))
theorem c_Op_putThing {d : Nat} (s : St) (a0 : Int32) (a1 : Option Nat) (a2 : Int32) (a3 : Option Nat) (hw : w_Op_putThing s a0 a1 a2 a3) : X m_Op_putThing (d + 3) 0 (entL 7 [.inr (.inr (some 8)), .inl a0, .inr (.inr a1), .inl a2, .inr (.inr a3)]) [] (hp s) (qVs (f_Op_putThing s a0 a1 a2 a3)) := by
  unfold f_Op_putThing
  unfold w_Op_putThing at hw
  refine X_run 2 (i1 := cond (Option.isNone a3) 13 2) (L1 := [some (.inr (.inr (some 8))), some (.inl a0), some (.inr (.inr a1)), some (.inl a2), some (.inr (.inr a3)), none, none]) (st1 := []) rfl ?_
  refine X_brq (fun hb => ?_) (fun hb => ?_)
  · have hw := hw.1 hb
    exact ct_Op_putThing_13 s a0 a1 a2 a3 hw
  · have hw := hw.2 hb
    refine X_run 3 (i1 := cond (cn2 .ne a0 (9 : Int32)) 10 5) (L1 := [some (.inr (.inr (some 8))), some (.inl a0), some (.inr (.inr a1)), some (.inl a2), some (.inr (.inr a3)), none, none]) (st1 := []) rfl ?_
    refine X_brq (fun hb => ?_) (fun hb => ?_)
    · have hw := hw.1 hb
      refine X_run 1 (i1 := 11) (L1 := [some (.inr (.inr (some 8))), some (.inl a0), some (.inr (.inr a1)), some (.inl a2), some (.inr (.inr a3)), none, none]) (st1 := [.inr (.inr a3)]) rfl ?_
      obtain ⟨hc, hw⟩ := hw
      refine X_dinst rfl (by decide) hc ?_
      show X _ _ 12 [some (.inr (.inr (some 8))), some (.inl a0), some (.inr (.inr a1)), some (.inl a2), some (.inr (.inr a3)), none, none] [.inl (b2i (isc (sD s) a3 0))] (hp s) _
      refine X_run 1 (i1 := cond (cn1 .eq (b2i (isc (sD s) a3 0))) 15 13) (L1 := [some (.inr (.inr (some 8))), some (.inl a0), some (.inr (.inr a1)), some (.inl a2), some (.inr (.inr a3)), none, none]) (st1 := []) rfl ?_
      refine X_brq (fun hb => ?_) (fun hb => ?_)
      · have hw := hw.1 hb
        exact ct_Op_putThing_15 s a0 a1 a2 a3 hw
      · have hw := hw.2 hb
        exact ct_Op_putThing_13 s a0 a1 a2 a3 hw
    · have hw := hw.2 hb
      refine X_run 1 (i1 := 6) (L1 := [some (.inr (.inr (some 8))), some (.inl a0), some (.inr (.inr a1)), some (.inl a2), some (.inr (.inr a3)), none, none]) (st1 := [.inr (.inr a3)]) rfl ?_
      obtain ⟨hc, hw⟩ := hw
      refine X_ukind (d := d + 2) rfl (Nat.le_of_ble_eq_true rfl) hc ?_
      show X _ _ 7 [some (.inr (.inr (some 8))), some (.inl a0), some (.inr (.inr a1)), some (.inl a2), some (.inr (.inr a3)), none, none] [.inl (u_kind s a3)] (hp s) _
      refine X_run 2 (i1 := cond (cn2 .ne (u_kind s a3) (4 : Int32)) 15 9) (L1 := [some (.inr (.inr (some 8))), some (.inl a0), some (.inr (.inr a1)), some (.inl a2), some (.inr (.inr a3)), none, none]) (st1 := []) rfl ?_
      refine X_brq (fun hb => ?_) (fun hb => ?_)
      · have hw := hw.1 hb
        exact ct_Op_putThing_15 s a0 a1 a2 a3 hw
      · have hw := hw.2 hb
        refine X_run 1 (i1 := 13) (L1 := [some (.inr (.inr (some 8))), some (.inl a0), some (.inr (.inr a1)), some (.inl a2), some (.inr (.inr a3)), none, none]) (st1 := []) rfl ?_
        exact ct_Op_putThing_13 s a0 a1 a2 a3 hw
def t_Op_takeField_10 (s : St) (v2 : Option Nat) : St := (f_Op_miss s v2)
def w_Op_takeField_10 (s : St) (v2 : Option Nat) : Prop := (w_Op_miss s v2 ∧ True)
theorem ct_Op_takeField_10 {d : Nat} (s : St) (v2 : Option Nat) (hw : w_Op_takeField_10 s v2) : X m_Op_takeField (d + 3) 10 [some (.inr (.inr (some 8))), none, some (.inr (.inr v2)), none] [] (hp s) (qVs (t_Op_takeField_10 s v2)) := by
  unfold t_Op_takeField_10
  unfold w_Op_takeField_10 at hw
  refine X_run 2 (i1 := 12) (L1 := [some (.inr (.inr (some 8))), none, some (.inr (.inr v2)), none]) (st1 := [.inr (.inr v2), .inr (.inr (some 8))]) rfl ?_
  obtain ⟨hc, hw⟩ := hw
  refine X_callv m_Op_miss (As := [.inr (.inr v2)]) (st := []) ok_Op_miss rfl rfl rfl (hp_obj rfl) rfl (Nat.le_of_ble_eq_true rfl) (Nat.le_of_ble_eq_true rfl) (c_Op_miss (d := d) s v2 hc) ?_
  rintro _ _ ⟨rfl, rfl⟩
  show X _ _ 13 [some (.inr (.inr (some 8))), none, some (.inr (.inr v2)), none] [] (hp (f_Op_miss s v2)) _
  refine X_run 1 (i1 := 45) (L1 := [some (.inr (.inr (some 8))), none, some (.inr (.inr v2)), none]) (st1 := []) rfl ?_
  exact X_ret rfl rfl qVs_i
def f_Op_takeField (s : St) (a0 : Int32) (a1 : Option Nat) : St := (cond (cn1 .eq (b2i (isc (sD s) a1 0))) (t_Op_takeField_10 s a1) (cond (cn1 .ne (b2i (f_Pa_has s a1 a0))) (cond (cn1 .ne a0) (cond (cn2 .ne a0 (1 : Int32)) (cond (cn2 .ne a0 (2 : Int32)) (f_Op_setSlot s (2 : Int32) (gR (sD s) a1 4)) (f_Op_setNumber s (2 : Int32) (gI (sD s) a1 3))) (f_Op_setReal s (2 : Int32) (gL (sD s) a1 2))) (f_Op_setNumber s (2 : Int32) (gI (sD s) a1 1))) (t_Op_takeField_10 s a1)))
def w_Op_takeField (s : St) (a0 : Int32) (a1 : Option Nat) : Prop := (tho (sD s) a1 ∧ ((cn1 .eq (b2i (isc (sD s) a1 0))) = true → (w_Op_takeField_10 s a1)) ∧ ((cn1 .eq (b2i (isc (sD s) a1 0))) = false → (cst (sD s) a1 0 ∧ (w_Pa_has s a1 a0 ∧ (oC (sD s) a1 = some 4 ∧ ((cn1 .ne (b2i (f_Pa_has s a1 a0))) = true → ((cn1 .ne a0) = true → ((cn2 .ne a0 (1 : Int32)) = true → ((cn2 .ne a0 (2 : Int32)) = true → (ob (sD s) a1 4 ∧ (w_Op_setSlot s (2 : Int32) (gR (sD s) a1 4) ∧ True))) ∧ ((cn2 .ne a0 (2 : Int32)) = false → (ob (sD s) a1 4 ∧ (w_Op_setNumber s (2 : Int32) (gI (sD s) a1 3) ∧ True)))) ∧ ((cn2 .ne a0 (1 : Int32)) = false → (ob (sD s) a1 4 ∧ (w_Op_setReal s (2 : Int32) (gL (sD s) a1 2) ∧ True)))) ∧ ((cn1 .ne a0) = false → (ob (sD s) a1 4 ∧ (w_Op_setNumber s (2 : Int32) (gI (sD s) a1 1) ∧ True)))) ∧ ((cn1 .ne (b2i (f_Pa_has s a1 a0))) = false → (w_Op_takeField_10 s a1)))))))
theorem c_Op_takeField {d : Nat} (s : St) (a0 : Int32) (a1 : Option Nat) (hw : w_Op_takeField s a0 a1) : X m_Op_takeField (d + 3) 0 (entL 4 [.inr (.inr (some 8)), .inl a0, .inr (.inr a1)]) [] (hp s) (qVs (f_Op_takeField s a0 a1)) := by
  unfold f_Op_takeField
  unfold w_Op_takeField at hw
  refine X_run 1 (i1 := 1) (L1 := [some (.inr (.inr (some 8))), some (.inl a0), some (.inr (.inr a1)), none]) (st1 := [.inr (.inr a1)]) rfl ?_
  obtain ⟨hc, hw⟩ := hw
  refine X_dinst rfl (by decide) hc ?_
  show X _ _ 2 [some (.inr (.inr (some 8))), some (.inl a0), some (.inr (.inr a1)), none] [.inl (b2i (isc (sD s) a1 0))] (hp s) _
  refine X_run 1 (i1 := cond (cn1 .eq (b2i (isc (sD s) a1 0))) 10 3) (L1 := [some (.inr (.inr (some 8))), some (.inl a0), some (.inr (.inr a1)), none]) (st1 := []) rfl ?_
  refine X_brq (fun hb => ?_) (fun hb => ?_)
  · have hw := hw.1 hb
    refine X_mask [true, false, true, true] ?_
    exact ct_Op_takeField_10 s a1 hw
  · have hw := hw.2 hb
    refine X_run 1 (i1 := 4) (L1 := [some (.inr (.inr (some 8))), some (.inl a0), some (.inr (.inr a1)), none]) (st1 := [.inr (.inr a1)]) rfl ?_
    obtain ⟨hc, hw⟩ := hw
    refine X_dcast rfl hc ?_
    refine X_run 3 (i1 := 8) (L1 := [some (.inr (.inr (some 8))), some (.inl a0), some (.inr (.inr a1)), some (.inr (.inr a1))]) (st1 := [.inl a0, .inr (.inr a1)]) rfl ?_
    obtain ⟨hc, hw⟩ := hw
    obtain ⟨hr, hw⟩ := hw
    refine X_dcallv m_Pa_has (As := [.inl a0]) (st := []) ok_Pa_has rfl rfl rfl hr rfl (Nat.le_of_ble_eq_true rfl) (Nat.le_of_ble_eq_true rfl) (c_Pa_has (d := d) s a1 a0 hc) ?_
    rintro _ _ ⟨rfl, rfl⟩
    show X _ _ 9 [some (.inr (.inr (some 8))), some (.inl a0), some (.inr (.inr a1)), some (.inr (.inr a1))] [.inl (b2i (f_Pa_has s a1 a0))] (hp s) _
    refine X_run 1 (i1 := cond (cn1 .ne (b2i (f_Pa_has s a1 a0))) 14 10) (L1 := [some (.inr (.inr (some 8))), some (.inl a0), some (.inr (.inr a1)), some (.inr (.inr a1))]) (st1 := []) rfl ?_
    refine X_brq (fun hb => ?_) (fun hb => ?_)
    · have hw := hw.1 hb
      refine X_run 2 (i1 := cond (cn1 .ne a0) 22 16) (L1 := [some (.inr (.inr (some 8))), some (.inl a0), some (.inr (.inr a1)), some (.inr (.inr a1))]) (st1 := []) rfl ?_
      refine X_brq (fun hb => ?_) (fun hb => ?_)
      · have hw := hw.1 hb
        refine X_run 3 (i1 := cond (cn2 .ne a0 (1 : Int32)) 31 25) (L1 := [some (.inr (.inr (some 8))), some (.inl a0), some (.inr (.inr a1)), some (.inr (.inr a1))]) (st1 := []) rfl ?_
        refine X_brq (fun hb => ?_) (fun hb => ?_)
        · have hw := hw.1 hb
          refine X_run 3 (i1 := cond (cn2 .ne a0 (2 : Int32)) 40 34) (L1 := [some (.inr (.inr (some 8))), some (.inl a0), some (.inr (.inr a1)), some (.inr (.inr a1))]) (st1 := []) rfl ?_
          refine X_brq (fun hb => ?_) (fun hb => ?_)
          · have hw := hw.1 hb
            refine X_run 3 (i1 := 43) (L1 := [some (.inr (.inr (some 8))), some (.inl a0), some (.inr (.inr a1)), some (.inr (.inr a1))]) (st1 := [.inr (.inr a1), .inl (2 : Int32), .inr (.inr (some 8))]) rfl ?_
            obtain ⟨hc, hw⟩ := hw
            refine X_dR rfl hc rfl ?_
            show X _ _ 44 [some (.inr (.inr (some 8))), some (.inl a0), some (.inr (.inr a1)), some (.inr (.inr a1))] [.inr (.inr (gR (sD s) a1 4)), .inl (2 : Int32), .inr (.inr (some 8))] (hp s) _
            obtain ⟨hc, hw⟩ := hw
            refine X_callv m_Op_setSlot (As := [.inl (2 : Int32), .inr (.inr (gR (sD s) a1 4))]) (st := []) ok_Op_setSlot rfl rfl rfl (hp_obj rfl) rfl (Nat.le_of_ble_eq_true rfl) (Nat.le_of_ble_eq_true rfl) (c_Op_setSlot (d := d + 1) s (2 : Int32) (gR (sD s) a1 4) hc) ?_
            rintro _ _ ⟨rfl, rfl⟩
            show X _ _ 45 [some (.inr (.inr (some 8))), some (.inl a0), some (.inr (.inr a1)), some (.inr (.inr a1))] [] (hp (f_Op_setSlot s (2 : Int32) (gR (sD s) a1 4))) _
            exact X_ret rfl rfl qVs_i
          · have hw := hw.2 hb
            refine X_run 3 (i1 := 37) (L1 := [some (.inr (.inr (some 8))), some (.inl a0), some (.inr (.inr a1)), some (.inr (.inr a1))]) (st1 := [.inr (.inr a1), .inl (2 : Int32), .inr (.inr (some 8))]) rfl ?_
            obtain ⟨hc, hw⟩ := hw
            refine X_dI rfl hc rfl ?_
            show X _ _ 38 [some (.inr (.inr (some 8))), some (.inl a0), some (.inr (.inr a1)), some (.inr (.inr a1))] [.inl (gI (sD s) a1 3), .inl (2 : Int32), .inr (.inr (some 8))] (hp s) _
            obtain ⟨hc, hw⟩ := hw
            refine X_callv m_Op_setNumber (As := [.inl (2 : Int32), .inl (gI (sD s) a1 3)]) (st := []) ok_Op_setNumber rfl rfl rfl (hp_obj rfl) rfl (Nat.le_of_ble_eq_true rfl) (Nat.le_of_ble_eq_true rfl) (c_Op_setNumber (d := d + 1) s (2 : Int32) (gI (sD s) a1 3) hc) ?_
            rintro _ _ ⟨rfl, rfl⟩
            show X _ _ 39 [some (.inr (.inr (some 8))), some (.inl a0), some (.inr (.inr a1)), some (.inr (.inr a1))] [] (hp (f_Op_setNumber s (2 : Int32) (gI (sD s) a1 3))) _
            refine X_run 1 (i1 := 45) (L1 := [some (.inr (.inr (some 8))), some (.inl a0), some (.inr (.inr a1)), some (.inr (.inr a1))]) (st1 := []) rfl ?_
            exact X_ret rfl rfl qVs_i
        · have hw := hw.2 hb
          refine X_run 3 (i1 := 28) (L1 := [some (.inr (.inr (some 8))), some (.inl a0), some (.inr (.inr a1)), some (.inr (.inr a1))]) (st1 := [.inr (.inr a1), .inl (2 : Int32), .inr (.inr (some 8))]) rfl ?_
          obtain ⟨hc, hw⟩ := hw
          refine X_dG rfl hc rfl ?_
          show X _ _ 29 [some (.inr (.inr (some 8))), some (.inl a0), some (.inr (.inr a1)), some (.inr (.inr a1))] [.inr (.inl (gL (sD s) a1 2)), .inl (2 : Int32), .inr (.inr (some 8))] (hp s) _
          obtain ⟨hc, hw⟩ := hw
          refine X_callv m_Op_setReal (As := [.inl (2 : Int32), .inr (.inl (gL (sD s) a1 2))]) (st := []) ok_Op_setReal rfl rfl rfl (hp_obj rfl) rfl (Nat.le_of_ble_eq_true rfl) (Nat.le_of_ble_eq_true rfl) (c_Op_setReal (d := d + 1) s (2 : Int32) (gL (sD s) a1 2) hc) ?_
          rintro _ _ ⟨rfl, rfl⟩
          show X _ _ 30 [some (.inr (.inr (some 8))), some (.inl a0), some (.inr (.inr a1)), some (.inr (.inr a1))] [] (hp (f_Op_setReal s (2 : Int32) (gL (sD s) a1 2))) _
          refine X_run 1 (i1 := 45) (L1 := [some (.inr (.inr (some 8))), some (.inl a0), some (.inr (.inr a1)), some (.inr (.inr a1))]) (st1 := []) rfl ?_
          exact X_ret rfl rfl qVs_i
      · have hw := hw.2 hb
        refine X_run 3 (i1 := 19) (L1 := [some (.inr (.inr (some 8))), some (.inl a0), some (.inr (.inr a1)), some (.inr (.inr a1))]) (st1 := [.inr (.inr a1), .inl (2 : Int32), .inr (.inr (some 8))]) rfl ?_
        obtain ⟨hc, hw⟩ := hw
        refine X_dI rfl hc rfl ?_
        show X _ _ 20 [some (.inr (.inr (some 8))), some (.inl a0), some (.inr (.inr a1)), some (.inr (.inr a1))] [.inl (gI (sD s) a1 1), .inl (2 : Int32), .inr (.inr (some 8))] (hp s) _
        obtain ⟨hc, hw⟩ := hw
        refine X_callv m_Op_setNumber (As := [.inl (2 : Int32), .inl (gI (sD s) a1 1)]) (st := []) ok_Op_setNumber rfl rfl rfl (hp_obj rfl) rfl (Nat.le_of_ble_eq_true rfl) (Nat.le_of_ble_eq_true rfl) (c_Op_setNumber (d := d + 1) s (2 : Int32) (gI (sD s) a1 1) hc) ?_
        rintro _ _ ⟨rfl, rfl⟩
        show X _ _ 21 [some (.inr (.inr (some 8))), some (.inl a0), some (.inr (.inr a1)), some (.inr (.inr a1))] [] (hp (f_Op_setNumber s (2 : Int32) (gI (sD s) a1 1))) _
        refine X_run 1 (i1 := 45) (L1 := [some (.inr (.inr (some 8))), some (.inl a0), some (.inr (.inr a1)), some (.inr (.inr a1))]) (st1 := []) rfl ?_
        exact X_ret rfl rfl qVs_i
    · have hw := hw.2 hb
      refine X_mask [true, false, true, false] ?_
      exact ct_Op_takeField_10 s a1 hw
def t_Op_putInner_33 (s : St) (w0 : Option Nat) (w1 : Option Nat) : St := (pQ s (dF (sD s) w1 4 (.inr (.inr w0))) (sN s) (sU s))
def w_Op_putInner_33 (s : St) (w0 : Option Nat) (w1 : Option Nat) : Prop := (ob (sD s) w1 4 ∧ True)
theorem ct_Op_putInner_33 {d : Nat} (s : St) (w0 : Option Nat) (w1 : Option Nat) (hw : w_Op_putInner_33 s w0 w1) : X m_Op_putInner (d + 2) 33 [none, none, none, none, none] [.inr (.inr w0), .inr (.inr w1)] (hp s) (qVs (t_Op_putInner_33 s w0 w1)) := by
  unfold t_Op_putInner_33
  unfold w_Op_putInner_33 at hw
  obtain ⟨hc, hw⟩ := hw
  refine X_dP rfl hc rfl ?_
  show X _ _ 34 [none, none, none, none, none] [] (hp (pQ s (dF (sD s) w1 4 (.inr (.inr w0))) (sN s) (sU s))) _
  refine X_run 1 (i1 := 39) (L1 := [none, none, none, none, none]) (st1 := []) rfl ?_
  exact X_ret rfl rfl qVs_i
def t_Op_putInner_17 (s : St) (v1 : Option Nat) (v2 : Option Nat) : St := (cond (cn1 .eq (b2i (isc (sD s) v1 0))) (f_Le_fault s (1 : Int32)) (cond (cn1 .eq (b2i (isc (sD s) v2 2))) (t_Op_putInner_33 s none v1) (t_Op_putInner_33 s v2 v1)))
def w_Op_putInner_17 (s : St) (v1 : Option Nat) (v2 : Option Nat) : Prop := (tho (sD s) v1 ∧ ((cn1 .eq (b2i (isc (sD s) v1 0))) = true → (w_Le_fault s (1 : Int32) ∧ True)) ∧ ((cn1 .eq (b2i (isc (sD s) v1 0))) = false → (cst (sD s) v1 0 ∧ (tho (sD s) v2 ∧ ((cn1 .eq (b2i (isc (sD s) v2 2))) = true → (w_Op_putInner_33 s none v1)) ∧ ((cn1 .eq (b2i (isc (sD s) v2 2))) = false → (cst (sD s) v2 2 ∧ (w_Op_putInner_33 s v2 v1)))))))
theorem ct_Op_putInner_17 {d : Nat} (s : St) (v1 : Option Nat) (v2 : Option Nat) (hw : w_Op_putInner_17 s v1 v2) : X m_Op_putInner (d + 2) 17 [some (.inr (.inr (some 8))), some (.inr (.inr v1)), some (.inr (.inr v2)), none, none] [] (hp s) (qVs (t_Op_putInner_17 s v1 v2)) := by
  unfold t_Op_putInner_17
  unfold w_Op_putInner_17 at hw
  refine X_run 1 (i1 := 18) (L1 := [some (.inr (.inr (some 8))), some (.inr (.inr v1)), some (.inr (.inr v2)), none, none]) (st1 := [.inr (.inr v1)]) rfl ?_
  obtain ⟨hc, hw⟩ := hw
  refine X_dinst rfl (by decide) hc ?_
  show X _ _ 19 [some (.inr (.inr (some 8))), some (.inr (.inr v1)), some (.inr (.inr v2)), none, none] [.inl (b2i (isc (sD s) v1 0))] (hp s) _
  refine X_run 1 (i1 := cond (cn1 .eq (b2i (isc (sD s) v1 0))) 35 20) (L1 := [some (.inr (.inr (some 8))), some (.inr (.inr v1)), some (.inr (.inr v2)), none, none]) (st1 := []) rfl ?_
  refine X_brq (fun hb => ?_) (fun hb => ?_)
  · have hw := hw.1 hb
    refine X_run 1 (i1 := 36) (L1 := [some (.inr (.inr (some 8))), some (.inr (.inr v1)), some (.inr (.inr v2)), none, none]) (st1 := [.inr (.inr (some 8))]) rfl ?_
    refine X_gF (v := .inr (.inr (some 1))) rfl rfl rfl rfl ?_
    refine X_run 1 (i1 := 38) (L1 := [some (.inr (.inr (some 8))), some (.inr (.inr v1)), some (.inr (.inr v2)), none, none]) (st1 := [.inl (1 : Int32), .inr (.inr (some 1))]) rfl ?_
    obtain ⟨hc, hw⟩ := hw
    refine X_callv m_Le_fault (As := [.inl (1 : Int32)]) (st := []) ok_Le_fault rfl rfl rfl (hp_obj rfl) rfl (Nat.le_of_ble_eq_true rfl) (Nat.le_of_ble_eq_true rfl) (c_Le_fault (d := d) s (1 : Int32) hc) ?_
    rintro _ _ ⟨rfl, rfl⟩
    show X _ _ 39 [some (.inr (.inr (some 8))), some (.inr (.inr v1)), some (.inr (.inr v2)), none, none] [] (hp (f_Le_fault s (1 : Int32))) _
    exact X_ret rfl rfl qVs_i
  · have hw := hw.2 hb
    refine X_run 1 (i1 := 21) (L1 := [some (.inr (.inr (some 8))), some (.inr (.inr v1)), some (.inr (.inr v2)), none, none]) (st1 := [.inr (.inr v1)]) rfl ?_
    obtain ⟨hc, hw⟩ := hw
    refine X_dcast rfl hc ?_
    refine X_run 3 (i1 := 25) (L1 := [some (.inr (.inr (some 8))), some (.inr (.inr v1)), some (.inr (.inr v2)), some (.inr (.inr v1)), none]) (st1 := [.inr (.inr v2), .inr (.inr v1)]) rfl ?_
    obtain ⟨hc, hw⟩ := hw
    refine X_dinst rfl (by decide) hc ?_
    show X _ _ 26 [some (.inr (.inr (some 8))), some (.inr (.inr v1)), some (.inr (.inr v2)), some (.inr (.inr v1)), none] [.inl (b2i (isc (sD s) v2 2)), .inr (.inr v1)] (hp s) _
    refine X_run 1 (i1 := cond (cn1 .eq (b2i (isc (sD s) v2 2))) 32 27) (L1 := [some (.inr (.inr (some 8))), some (.inr (.inr v1)), some (.inr (.inr v2)), some (.inr (.inr v1)), none]) (st1 := [.inr (.inr v1)]) rfl ?_
    refine X_brq (fun hb => ?_) (fun hb => ?_)
    · have hw := hw.1 hb
      refine X_run 1 (i1 := 33) (L1 := [some (.inr (.inr (some 8))), some (.inr (.inr v1)), some (.inr (.inr v2)), some (.inr (.inr v1)), none]) (st1 := [.inr (.inr none), .inr (.inr v1)]) rfl ?_
      refine X_mask [false, false, false, false, true] ?_
      exact ct_Op_putInner_33 s none v1 hw
    · have hw := hw.2 hb
      refine X_run 1 (i1 := 28) (L1 := [some (.inr (.inr (some 8))), some (.inr (.inr v1)), some (.inr (.inr v2)), some (.inr (.inr v1)), none]) (st1 := [.inr (.inr v2), .inr (.inr v1)]) rfl ?_
      obtain ⟨hc, hw⟩ := hw
      refine X_dcast rfl hc ?_
      refine X_run 3 (i1 := 33) (L1 := [some (.inr (.inr (some 8))), some (.inr (.inr v1)), some (.inr (.inr v2)), some (.inr (.inr v1)), some (.inr (.inr v2))]) (st1 := [.inr (.inr v2), .inr (.inr v1)]) rfl ?_
      refine X_mask [false, false, false, false, false] ?_
      exact ct_Op_putInner_33 s v2 v1 hw
def t_Op_putInner_12 (s : St) : St := (f_Le_fault s (4 : Int32))
def w_Op_putInner_12 (s : St) : Prop := (w_Le_fault s (4 : Int32) ∧ True)
theorem ct_Op_putInner_12 {d : Nat} (s : St) (hw : w_Op_putInner_12 s) : X m_Op_putInner (d + 2) 12 [some (.inr (.inr (some 8))), none, none, none, none] [] (hp s) (qVs (t_Op_putInner_12 s)) := by
  unfold t_Op_putInner_12
  unfold w_Op_putInner_12 at hw
  refine X_run 1 (i1 := 13) (L1 := [some (.inr (.inr (some 8))), none, none, none, none]) (st1 := [.inr (.inr (some 8))]) rfl ?_
  refine X_gF (v := .inr (.inr (some 1))) rfl rfl rfl rfl ?_
  refine X_run 1 (i1 := 15) (L1 := [some (.inr (.inr (some 8))), none, none, none, none]) (st1 := [.inl (4 : Int32), .inr (.inr (some 1))]) rfl ?_
  obtain ⟨hc, hw⟩ := hw
  refine X_callv m_Le_fault (As := [.inl (4 : Int32)]) (st := []) ok_Le_fault rfl rfl rfl (hp_obj rfl) rfl (Nat.le_of_ble_eq_true rfl) (Nat.le_of_ble_eq_true rfl) (c_Le_fault (d := d) s (4 : Int32) hc) ?_
  rintro _ _ ⟨rfl, rfl⟩
  show X _ _ 16 [some (.inr (.inr (some 8))), none, none, none, none] [] (hp (f_Le_fault s (4 : Int32))) _
  refine X_run 1 (i1 := 39) (L1 := [some (.inr (.inr (some 8))), none, none, none, none]) (st1 := []) rfl ?_
  exact X_ret rfl rfl qVs_i
def t_Op_putInner_6 (s : St) (v1 : Option Nat) (v2 : Option Nat) : St := (cond (Option.isNone v2) (t_Op_putInner_17 s v1 v2) (cond (cn2 .eq (u_kind s v2) (10 : Int32)) (t_Op_putInner_17 s v1 v2) (t_Op_putInner_12 s)))
def w_Op_putInner_6 (s : St) (v1 : Option Nat) (v2 : Option Nat) : Prop := ((Option.isNone v2) = true → (w_Op_putInner_17 s v1 v2)) ∧ ((Option.isNone v2) = false → (wu_kind s v2 ∧ ((cn2 .eq (u_kind s v2) (10 : Int32)) = true → (w_Op_putInner_17 s v1 v2)) ∧ ((cn2 .eq (u_kind s v2) (10 : Int32)) = false → (w_Op_putInner_12 s))))
theorem ct_Op_putInner_6 {d : Nat} (s : St) (v1 : Option Nat) (v2 : Option Nat) (hw : w_Op_putInner_6 s v1 v2) : X m_Op_putInner (d + 2) 6 [some (.inr (.inr (some 8))), some (.inr (.inr v1)), some (.inr (.inr v2)), none, none] [] (hp s) (qVs (t_Op_putInner_6 s v1 v2)) := by
  unfold t_Op_putInner_6
  unfold w_Op_putInner_6 at hw
  refine X_run 2 (i1 := cond (Option.isNone v2) 17 8) (L1 := [some (.inr (.inr (some 8))), some (.inr (.inr v1)), some (.inr (.inr v2)), none, none]) (st1 := []) rfl ?_
  refine X_brq (fun hb => ?_) (fun hb => ?_)
  · have hw := hw.1 hb
    exact ct_Op_putInner_17 s v1 v2 hw
  · have hw := hw.2 hb
    refine X_run 1 (i1 := 9) (L1 := [some (.inr (.inr (some 8))), some (.inr (.inr v1)), some (.inr (.inr v2)), none, none]) (st1 := [.inr (.inr v2)]) rfl ?_
    obtain ⟨hc, hw⟩ := hw
    refine X_ukind (d := d + 1) rfl (Nat.le_of_ble_eq_true rfl) hc ?_
    show X _ _ 10 [some (.inr (.inr (some 8))), some (.inr (.inr v1)), some (.inr (.inr v2)), none, none] [.inl (u_kind s v2)] (hp s) _
    refine X_run 2 (i1 := cond (cn2 .eq (u_kind s v2) (10 : Int32)) 17 12) (L1 := [some (.inr (.inr (some 8))), some (.inr (.inr v1)), some (.inr (.inr v2)), none, none]) (st1 := []) rfl ?_
    refine X_brq (fun hb => ?_) (fun hb => ?_)
    · have hw := hw.1 hb
      exact ct_Op_putInner_17 s v1 v2 hw
    · have hw := hw.2 hb
      refine X_mask [true, false, false, true, true] ?_
      exact ct_Op_putInner_12 s hw
def f_Op_putInner (s : St) (a0 : Option Nat) (a1 : Option Nat) : St := (cond (Option.isNone a0) (t_Op_putInner_6 s a0 a1) (cond (cn2 .ne (u_kind s a0) (15 : Int32)) (t_Op_putInner_12 s) (t_Op_putInner_6 s a0 a1)))
def w_Op_putInner (s : St) (a0 : Option Nat) (a1 : Option Nat) : Prop := ((Option.isNone a0) = true → (w_Op_putInner_6 s a0 a1)) ∧ ((Option.isNone a0) = false → (wu_kind s a0 ∧ ((cn2 .ne (u_kind s a0) (15 : Int32)) = true → (w_Op_putInner_12 s)) ∧ ((cn2 .ne (u_kind s a0) (15 : Int32)) = false → (w_Op_putInner_6 s a0 a1))))
theorem c_Op_putInner {d : Nat} (s : St) (a0 : Option Nat) (a1 : Option Nat) (hw : w_Op_putInner s a0 a1) : X m_Op_putInner (d + 2) 0 (entL 5 [.inr (.inr (some 8)), .inr (.inr a0), .inr (.inr a1)]) [] (hp s) (qVs (f_Op_putInner s a0 a1)) := by
  unfold f_Op_putInner
  unfold w_Op_putInner at hw
  refine X_run 2 (i1 := cond (Option.isNone a0) 6 2) (L1 := [some (.inr (.inr (some 8))), some (.inr (.inr a0)), some (.inr (.inr a1)), none, none]) (st1 := []) rfl ?_
  refine X_brq (fun hb => ?_) (fun hb => ?_)
  · have hw := hw.1 hb
    exact ct_Op_putInner_6 s a0 a1 hw
  · have hw := hw.2 hb
    refine X_run 1 (i1 := 3) (L1 := [some (.inr (.inr (some 8))), some (.inr (.inr a0)), some (.inr (.inr a1)), none, none]) (st1 := [.inr (.inr a0)]) rfl ?_
    obtain ⟨hc, hw⟩ := hw
    refine X_ukind (d := d + 1) rfl (Nat.le_of_ble_eq_true rfl) hc ?_
    show X _ _ 4 [some (.inr (.inr (some 8))), some (.inr (.inr a0)), some (.inr (.inr a1)), none, none] [.inl (u_kind s a0)] (hp s) _
    refine X_run 2 (i1 := cond (cn2 .ne (u_kind s a0) (15 : Int32)) 12 6) (L1 := [some (.inr (.inr (some 8))), some (.inr (.inr a0)), some (.inr (.inr a1)), none, none]) (st1 := []) rfl ?_
    refine X_brq (fun hb => ?_) (fun hb => ?_)
    · have hw := hw.1 hb
      refine X_mask [true, false, false, true, true] ?_
      exact ct_Op_putInner_12 s hw
    · have hw := hw.2 hb
      exact ct_Op_putInner_6 s a0 a1 hw
def t_Op_putField_20 (s : St) (v2 : Option Nat) : St := (f_Op_miss s v2)
def w_Op_putField_20 (s : St) (v2 : Option Nat) : Prop := (w_Op_miss s v2 ∧ True)
theorem ct_Op_putField_20 {d : Nat} (s : St) (v2 : Option Nat) (hw : w_Op_putField_20 s v2) : X m_Op_putField (d + 3) 20 [some (.inr (.inr (some 8))), none, some (.inr (.inr v2)), none] [] (hp s) (qVs (t_Op_putField_20 s v2)) := by
  unfold t_Op_putField_20
  unfold w_Op_putField_20 at hw
  refine X_run 2 (i1 := 22) (L1 := [some (.inr (.inr (some 8))), none, some (.inr (.inr v2)), none]) (st1 := [.inr (.inr v2), .inr (.inr (some 8))]) rfl ?_
  obtain ⟨hc, hw⟩ := hw
  refine X_callv m_Op_miss (As := [.inr (.inr v2)]) (st := []) ok_Op_miss rfl rfl rfl (hp_obj rfl) rfl (Nat.le_of_ble_eq_true rfl) (Nat.le_of_ble_eq_true rfl) (c_Op_miss (d := d) s v2 hc) ?_
  rintro _ _ ⟨rfl, rfl⟩
  show X _ _ 23 [some (.inr (.inr (some 8))), none, some (.inr (.inr v2)), none] [] (hp (f_Op_miss s v2)) _
  refine X_run 1 (i1 := 46) (L1 := [some (.inr (.inr (some 8))), none, some (.inr (.inr v2)), none]) (st1 := []) rfl ?_
  exact X_ret rfl rfl qVs_i
def f_Op_putField (s : St) (a0 : Int32) (a1 : Option Nat) : St := (cond (cn2 .ne a0 (3 : Int32)) (cond (cn1 .eq (b2i (isc (sD s) a1 0))) (t_Op_putField_20 s a1) (cond (cn1 .ne (b2i (f_Pa_has s a1 a0))) (cond (cn1 .ne a0) (cond (cn2 .ne a0 (1 : Int32)) (pQ s (dF (sD s) a1 3 (.inl (f_Op_numberAt s (3 : Int32)))) (sN s) (sU s)) (pQ s (dF (sD s) a1 2 (.inr (.inl (f_Op_realAt s (3 : Int32))))) (sN s) (sU s))) (pQ s (dF (sD s) a1 1 (.inl (f_Op_numberAt s (3 : Int32)))) (sN s) (sU s))) (t_Op_putField_20 s a1))) (f_Op_putInner s a1 (f_Op_slotAt s (3 : Int32))))
def w_Op_putField (s : St) (a0 : Int32) (a1 : Option Nat) : Prop := ((cn2 .ne a0 (3 : Int32)) = true → (tho (sD s) a1 ∧ ((cn1 .eq (b2i (isc (sD s) a1 0))) = true → (w_Op_putField_20 s a1)) ∧ ((cn1 .eq (b2i (isc (sD s) a1 0))) = false → (cst (sD s) a1 0 ∧ (w_Pa_has s a1 a0 ∧ (oC (sD s) a1 = some 4 ∧ ((cn1 .ne (b2i (f_Pa_has s a1 a0))) = true → ((cn1 .ne a0) = true → ((cn2 .ne a0 (1 : Int32)) = true → (w_Op_numberAt s (3 : Int32) ∧ (ob (sD s) a1 4 ∧ True))) ∧ ((cn2 .ne a0 (1 : Int32)) = false → (w_Op_realAt s (3 : Int32) ∧ (ob (sD s) a1 4 ∧ True)))) ∧ ((cn1 .ne a0) = false → (w_Op_numberAt s (3 : Int32) ∧ (ob (sD s) a1 4 ∧ True)))) ∧ ((cn1 .ne (b2i (f_Pa_has s a1 a0))) = false → (w_Op_putField_20 s a1)))))))) ∧ ((cn2 .ne a0 (3 : Int32)) = false → (w_Op_slotAt s (3 : Int32) ∧ (w_Op_putInner s a1 (f_Op_slotAt s (3 : Int32)) ∧ True)))
theorem c_Op_putField {d : Nat} (s : St) (a0 : Int32) (a1 : Option Nat) (hw : w_Op_putField s a0 a1) : X m_Op_putField (d + 3) 0 (entL 4 [.inr (.inr (some 8)), .inl a0, .inr (.inr a1)]) [] (hp s) (qVs (f_Op_putField s a0 a1)) := by
  unfold f_Op_putField
  unfold w_Op_putField at hw
  refine X_run 3 (i1 := cond (cn2 .ne a0 (3 : Int32)) 10 3) (L1 := [some (.inr (.inr (some 8))), some (.inl a0), some (.inr (.inr a1)), none]) (st1 := []) rfl ?_
  refine X_brq (fun hb => ?_) (fun hb => ?_)
  · have hw := hw.1 hb
    refine X_run 1 (i1 := 11) (L1 := [some (.inr (.inr (some 8))), some (.inl a0), some (.inr (.inr a1)), none]) (st1 := [.inr (.inr a1)]) rfl ?_
    obtain ⟨hc, hw⟩ := hw
    refine X_dinst rfl (by decide) hc ?_
    show X _ _ 12 [some (.inr (.inr (some 8))), some (.inl a0), some (.inr (.inr a1)), none] [.inl (b2i (isc (sD s) a1 0))] (hp s) _
    refine X_run 1 (i1 := cond (cn1 .eq (b2i (isc (sD s) a1 0))) 20 13) (L1 := [some (.inr (.inr (some 8))), some (.inl a0), some (.inr (.inr a1)), none]) (st1 := []) rfl ?_
    refine X_brq (fun hb => ?_) (fun hb => ?_)
    · have hw := hw.1 hb
      refine X_mask [true, false, true, true] ?_
      exact ct_Op_putField_20 s a1 hw
    · have hw := hw.2 hb
      refine X_run 1 (i1 := 14) (L1 := [some (.inr (.inr (some 8))), some (.inl a0), some (.inr (.inr a1)), none]) (st1 := [.inr (.inr a1)]) rfl ?_
      obtain ⟨hc, hw⟩ := hw
      refine X_dcast rfl hc ?_
      refine X_run 3 (i1 := 18) (L1 := [some (.inr (.inr (some 8))), some (.inl a0), some (.inr (.inr a1)), some (.inr (.inr a1))]) (st1 := [.inl a0, .inr (.inr a1)]) rfl ?_
      obtain ⟨hc, hw⟩ := hw
      obtain ⟨hr, hw⟩ := hw
      refine X_dcallv m_Pa_has (As := [.inl a0]) (st := []) ok_Pa_has rfl rfl rfl hr rfl (Nat.le_of_ble_eq_true rfl) (Nat.le_of_ble_eq_true rfl) (c_Pa_has (d := d) s a1 a0 hc) ?_
      rintro _ _ ⟨rfl, rfl⟩
      show X _ _ 19 [some (.inr (.inr (some 8))), some (.inl a0), some (.inr (.inr a1)), some (.inr (.inr a1))] [.inl (b2i (f_Pa_has s a1 a0))] (hp s) _
      refine X_run 1 (i1 := cond (cn1 .ne (b2i (f_Pa_has s a1 a0))) 24 20) (L1 := [some (.inr (.inr (some 8))), some (.inl a0), some (.inr (.inr a1)), some (.inr (.inr a1))]) (st1 := []) rfl ?_
      refine X_brq (fun hb => ?_) (fun hb => ?_)
      · have hw := hw.1 hb
        refine X_run 2 (i1 := cond (cn1 .ne a0) 32 26) (L1 := [some (.inr (.inr (some 8))), some (.inl a0), some (.inr (.inr a1)), some (.inr (.inr a1))]) (st1 := []) rfl ?_
        refine X_brq (fun hb => ?_) (fun hb => ?_)
        · have hw := hw.1 hb
          refine X_run 3 (i1 := cond (cn2 .ne a0 (1 : Int32)) 41 35) (L1 := [some (.inr (.inr (some 8))), some (.inl a0), some (.inr (.inr a1)), some (.inr (.inr a1))]) (st1 := []) rfl ?_
          refine X_brq (fun hb => ?_) (fun hb => ?_)
          · have hw := hw.1 hb
            refine X_run 3 (i1 := 44) (L1 := [some (.inr (.inr (some 8))), some (.inl a0), some (.inr (.inr a1)), some (.inr (.inr a1))]) (st1 := [.inl (3 : Int32), .inr (.inr (some 8)), .inr (.inr a1)]) rfl ?_
            obtain ⟨hc, hw⟩ := hw
            refine X_callv m_Op_numberAt (As := [.inl (3 : Int32)]) (st := [.inr (.inr a1)]) ok_Op_numberAt rfl rfl rfl (hp_obj rfl) rfl (Nat.le_of_ble_eq_true rfl) (Nat.le_of_ble_eq_true rfl) (c_Op_numberAt (d := d + 1) s (3 : Int32) hc) ?_
            rintro _ _ ⟨rfl, rfl⟩
            show X _ _ 45 [some (.inr (.inr (some 8))), some (.inl a0), some (.inr (.inr a1)), some (.inr (.inr a1))] [.inl (f_Op_numberAt s (3 : Int32)), .inr (.inr a1)] (hp s) _
            obtain ⟨hc, hw⟩ := hw
            refine X_dP rfl hc rfl ?_
            show X _ _ 46 [some (.inr (.inr (some 8))), some (.inl a0), some (.inr (.inr a1)), some (.inr (.inr a1))] [] (hp (pQ s (dF (sD s) a1 3 (.inl (f_Op_numberAt s (3 : Int32)))) (sN s) (sU s))) _
            exact X_ret rfl rfl qVs_i
          · have hw := hw.2 hb
            refine X_run 3 (i1 := 38) (L1 := [some (.inr (.inr (some 8))), some (.inl a0), some (.inr (.inr a1)), some (.inr (.inr a1))]) (st1 := [.inl (3 : Int32), .inr (.inr (some 8)), .inr (.inr a1)]) rfl ?_
            obtain ⟨hc, hw⟩ := hw
            refine X_callv m_Op_realAt (As := [.inl (3 : Int32)]) (st := [.inr (.inr a1)]) ok_Op_realAt rfl rfl rfl (hp_obj rfl) rfl (Nat.le_of_ble_eq_true rfl) (Nat.le_of_ble_eq_true rfl) (c_Op_realAt (d := d + 1) s (3 : Int32) hc) ?_
            rintro _ _ ⟨rfl, rfl⟩
            show X _ _ 39 [some (.inr (.inr (some 8))), some (.inl a0), some (.inr (.inr a1)), some (.inr (.inr a1))] [.inr (.inl (f_Op_realAt s (3 : Int32))), .inr (.inr a1)] (hp s) _
            obtain ⟨hc, hw⟩ := hw
            refine X_dP rfl hc rfl ?_
            show X _ _ 40 [some (.inr (.inr (some 8))), some (.inl a0), some (.inr (.inr a1)), some (.inr (.inr a1))] [] (hp (pQ s (dF (sD s) a1 2 (.inr (.inl (f_Op_realAt s (3 : Int32))))) (sN s) (sU s))) _
            refine X_run 1 (i1 := 46) (L1 := [some (.inr (.inr (some 8))), some (.inl a0), some (.inr (.inr a1)), some (.inr (.inr a1))]) (st1 := []) rfl ?_
            exact X_ret rfl rfl qVs_i
        · have hw := hw.2 hb
          refine X_run 3 (i1 := 29) (L1 := [some (.inr (.inr (some 8))), some (.inl a0), some (.inr (.inr a1)), some (.inr (.inr a1))]) (st1 := [.inl (3 : Int32), .inr (.inr (some 8)), .inr (.inr a1)]) rfl ?_
          obtain ⟨hc, hw⟩ := hw
          refine X_callv m_Op_numberAt (As := [.inl (3 : Int32)]) (st := [.inr (.inr a1)]) ok_Op_numberAt rfl rfl rfl (hp_obj rfl) rfl (Nat.le_of_ble_eq_true rfl) (Nat.le_of_ble_eq_true rfl) (c_Op_numberAt (d := d + 1) s (3 : Int32) hc) ?_
          rintro _ _ ⟨rfl, rfl⟩
          show X _ _ 30 [some (.inr (.inr (some 8))), some (.inl a0), some (.inr (.inr a1)), some (.inr (.inr a1))] [.inl (f_Op_numberAt s (3 : Int32)), .inr (.inr a1)] (hp s) _
          obtain ⟨hc, hw⟩ := hw
          refine X_dP rfl hc rfl ?_
          show X _ _ 31 [some (.inr (.inr (some 8))), some (.inl a0), some (.inr (.inr a1)), some (.inr (.inr a1))] [] (hp (pQ s (dF (sD s) a1 1 (.inl (f_Op_numberAt s (3 : Int32)))) (sN s) (sU s))) _
          refine X_run 1 (i1 := 46) (L1 := [some (.inr (.inr (some 8))), some (.inl a0), some (.inr (.inr a1)), some (.inr (.inr a1))]) (st1 := []) rfl ?_
          exact X_ret rfl rfl qVs_i
      · have hw := hw.2 hb
        refine X_mask [true, false, true, false] ?_
        exact ct_Op_putField_20 s a1 hw
  · have hw := hw.2 hb
    refine X_run 4 (i1 := 7) (L1 := [some (.inr (.inr (some 8))), some (.inl a0), some (.inr (.inr a1)), none]) (st1 := [.inl (3 : Int32), .inr (.inr (some 8)), .inr (.inr a1), .inr (.inr (some 8))]) rfl ?_
    obtain ⟨hc, hw⟩ := hw
    refine X_callv m_Op_slotAt (As := [.inl (3 : Int32)]) (st := [.inr (.inr a1), .inr (.inr (some 8))]) ok_Op_slotAt rfl rfl rfl (hp_obj rfl) rfl (Nat.le_of_ble_eq_true rfl) (Nat.le_of_ble_eq_true rfl) (c_Op_slotAt (d := d + 1) s (3 : Int32) hc) ?_
    rintro _ _ ⟨rfl, rfl⟩
    show X _ _ 8 [some (.inr (.inr (some 8))), some (.inl a0), some (.inr (.inr a1)), none] [.inr (.inr (f_Op_slotAt s (3 : Int32))), .inr (.inr a1), .inr (.inr (some 8))] (hp s) _
    obtain ⟨hc, hw⟩ := hw
    refine X_callv m_Op_putInner (As := [.inr (.inr a1), .inr (.inr (f_Op_slotAt s (3 : Int32)))]) (st := []) ok_Op_putInner rfl rfl rfl (hp_obj rfl) rfl (Nat.le_of_ble_eq_true rfl) (Nat.le_of_ble_eq_true rfl) (c_Op_putInner (d := d) s a1 (f_Op_slotAt s (3 : Int32)) hc) ?_
    rintro _ _ ⟨rfl, rfl⟩
    show X _ _ 9 [some (.inr (.inr (some 8))), some (.inl a0), some (.inr (.inr a1)), none] [] (hp (f_Op_putInner s a1 (f_Op_slotAt s (3 : Int32)))) _
    refine X_run 1 (i1 := 46) (L1 := [some (.inr (.inr (some 8))), some (.inl a0), some (.inr (.inr a1)), none]) (st1 := []) rfl ?_
    exact X_ret rfl rfl qVs_i
def t_Op_ask_44 (fu : Nat) (s : St) (w0 : Int64) (w1 : Int32) : St := (f_Op_setReal s w1 w0)
def w_Op_ask_44 (fu : Nat) (s : St) (w0 : Int64) (w1 : Int32) : Prop := (w_Op_setReal s w1 w0 ∧ True)
theorem ct_Op_ask_44 {d : Nat} (fu : Nat) (s : St) (w0 : Int64) (w1 : Int32) (hw : w_Op_ask_44 fu s w0 w1) : X m_Op_ask (d + 36) 44 [none, none, none, none, none, none, none] [.inr (.inl w0), .inl w1, .inr (.inr (some 8))] (hp s) (qVs (t_Op_ask_44 fu s w0 w1)) := by
  unfold t_Op_ask_44
  unfold w_Op_ask_44 at hw
  obtain ⟨hc, hw⟩ := hw
  refine X_callv m_Op_setReal (As := [.inl w1, .inr (.inl w0)]) (st := []) ok_Op_setReal rfl rfl rfl (hp_obj rfl) rfl (Nat.le_of_ble_eq_true rfl) (Nat.le_of_ble_eq_true rfl) (c_Op_setReal (d := d + 34) s w1 w0 hc) ?_
  rintro _ _ ⟨rfl, rfl⟩
  show X _ _ 45 [none, none, none, none, none, none, none] [] (hp (f_Op_setReal s w1 w0)) _
  exact X_ret rfl rfl qVs_i
def t_Op_ask_29 (fu : Nat) (s : St) (v1 : Int32) (v3 : Int32) (v4 : Option Nat) (w0 : Int64) : St := (cond (cn1 .ne (b2i (f_Le_stopped s))) s (cond (cn1 .ne v1) (t_Op_ask_44 fu s (f_Pa_loadOf s v4 v3 w0) (2 : Int32)) (t_Op_ask_44 fu s w0 (2 : Int32))))
def w_Op_ask_29 (fu : Nat) (s : St) (v1 : Int32) (v3 : Int32) (v4 : Option Nat) (w0 : Int64) : Prop := (w_Le_stopped s ∧ ((cn1 .ne (b2i (f_Le_stopped s))) = true → True) ∧ ((cn1 .ne (b2i (f_Le_stopped s))) = false → ((cn1 .ne v1) = true → (w_Pa_loadOf s v4 v3 w0 ∧ (oC (sD s) v4 = some 4 ∧ (w_Op_ask_44 fu s (f_Pa_loadOf s v4 v3 w0) (2 : Int32))))) ∧ ((cn1 .ne v1) = false → (w_Op_ask_44 fu s w0 (2 : Int32)))))
theorem ct_Op_ask_29 {d : Nat} (fu : Nat) (s : St) (v1 : Int32) (v3 : Int32) (v4 : Option Nat) (w0 : Int64) (hw : w_Op_ask_29 fu s v1 v3 v4 w0) : X m_Op_ask (d + 36) 29 [some (.inr (.inr (some 8))), some (.inl v1), none, some (.inl v3), some (.inr (.inr v4)), none, none] [.inr (.inl w0)] (hp s) (qVs (t_Op_ask_29 fu s v1 v3 v4 w0)) := by
  unfold t_Op_ask_29
  unfold w_Op_ask_29 at hw
  refine X_run 2 (i1 := 31) (L1 := [some (.inr (.inr (some 8))), some (.inl v1), none, some (.inl v3), some (.inr (.inr v4)), some (.inr (.inl w0)), none]) (st1 := [.inr (.inr (some 8))]) rfl ?_
  refine X_gF (v := .inr (.inr (some 1))) rfl rfl rfl rfl ?_
  obtain ⟨hc, hw⟩ := hw
  refine X_callv m_Le_stopped (As := []) (st := []) ok_Le_stopped rfl rfl rfl (hp_obj rfl) rfl (Nat.le_of_ble_eq_true rfl) (Nat.le_of_ble_eq_true rfl) (c_Le_stopped (d := d + 35) s hc) ?_
  rintro _ _ ⟨rfl, rfl⟩
  show X _ _ 33 [some (.inr (.inr (some 8))), some (.inl v1), none, some (.inl v3), some (.inr (.inr v4)), some (.inr (.inl w0)), none] [.inl (b2i (f_Le_stopped s))] (hp s) _
  refine X_run 1 (i1 := cond (cn1 .ne (b2i (f_Le_stopped s))) 45 34) (L1 := [some (.inr (.inr (some 8))), some (.inl v1), none, some (.inl v3), some (.inr (.inr v4)), some (.inr (.inl w0)), none]) (st1 := []) rfl ?_
  refine X_brq (fun hb => ?_) (fun hb => ?_)
  · skip
    exact X_ret rfl rfl qVs_i
  · have hw := hw.2 hb
    refine X_run 4 (i1 := cond (cn1 .ne v1) 40 38) (L1 := [some (.inr (.inr (some 8))), some (.inl v1), none, some (.inl v3), some (.inr (.inr v4)), some (.inr (.inl w0)), none]) (st1 := [.inl (2 : Int32), .inr (.inr (some 8))]) rfl ?_
    refine X_brq (fun hb => ?_) (fun hb => ?_)
    · have hw := hw.1 hb
      refine X_run 3 (i1 := 43) (L1 := [some (.inr (.inr (some 8))), some (.inl v1), none, some (.inl v3), some (.inr (.inr v4)), some (.inr (.inl w0)), none]) (st1 := [.inr (.inl w0), .inl v3, .inr (.inr v4), .inl (2 : Int32), .inr (.inr (some 8))]) rfl ?_
      obtain ⟨hc, hw⟩ := hw
      obtain ⟨hr, hw⟩ := hw
      refine X_dcallv m_Pa_loadOf (As := [.inl v3, .inr (.inl w0)]) (st := [.inl (2 : Int32), .inr (.inr (some 8))]) ok_Pa_loadOf rfl rfl rfl hr rfl (Nat.le_of_ble_eq_true rfl) (Nat.le_of_ble_eq_true rfl) (c_Pa_loadOf (d := d + 32) s v4 v3 w0 hc) ?_
      rintro _ _ ⟨rfl, rfl⟩
      show X _ _ 44 [some (.inr (.inr (some 8))), some (.inl v1), none, some (.inl v3), some (.inr (.inr v4)), some (.inr (.inl w0)), none] [.inr (.inl (f_Pa_loadOf s v4 v3 w0)), .inl (2 : Int32), .inr (.inr (some 8))] (hp s) _
      show X _ _ 44 [some (.inr (.inr (some 8))), some (.inl v1), none, some (.inl v3), some (.inr (.inr v4)), some (.inr (.inl w0)), none] [.inr (.inl (f_Pa_loadOf s v4 v3 w0)), .inl (2 : Int32), .inr (.inr (some 8))] (hp s) _
      refine X_mask [false, false, true, false, false, false, true] ?_
      exact ct_Op_ask_44 fu s (f_Pa_loadOf s v4 v3 w0) (2 : Int32) hw
    · have hw := hw.2 hb
      refine X_run 2 (i1 := 44) (L1 := [some (.inr (.inr (some 8))), some (.inl v1), none, some (.inl v3), some (.inr (.inr v4)), some (.inr (.inl w0)), none]) (st1 := [.inr (.inl w0), .inl (2 : Int32), .inr (.inr (some 8))]) rfl ?_
      refine X_mask [false, false, true, false, false, false, true] ?_
      exact ct_Op_ask_44 fu s w0 (2 : Int32) hw
def t_Op_ask_10 (fu : Nat) (s : St) (v2 : Option Nat) : St := (f_Op_miss s v2)
def w_Op_ask_10 (fu : Nat) (s : St) (v2 : Option Nat) : Prop := (w_Op_miss s v2 ∧ True)
theorem ct_Op_ask_10 {d : Nat} (fu : Nat) (s : St) (v2 : Option Nat) (hw : w_Op_ask_10 fu s v2) : X m_Op_ask (d + 36) 10 [some (.inr (.inr (some 8))), none, some (.inr (.inr v2)), none, none, none, none] [] (hp s) (qVs (t_Op_ask_10 fu s v2)) := by
  unfold t_Op_ask_10
  unfold w_Op_ask_10 at hw
  refine X_run 2 (i1 := 12) (L1 := [some (.inr (.inr (some 8))), none, some (.inr (.inr v2)), none, none, none, none]) (st1 := [.inr (.inr v2), .inr (.inr (some 8))]) rfl ?_
  obtain ⟨hc, hw⟩ := hw
  refine X_callv m_Op_miss (As := [.inr (.inr v2)]) (st := []) ok_Op_miss rfl rfl rfl (hp_obj rfl) rfl (Nat.le_of_ble_eq_true rfl) (Nat.le_of_ble_eq_true rfl) (c_Op_miss (d := d + 33) s v2 hc) ?_
  rintro _ _ ⟨rfl, rfl⟩
  show X _ _ 13 [some (.inr (.inr (some 8))), none, some (.inr (.inr v2)), none, none, none, none] [] (hp (f_Op_miss s v2)) _
  exact X_ret rfl rfl qVs_i
def f_Op_ask (fu : Nat) (s : St) (a0 : Int32) (a1 : Option Nat) (a2 : Int32) : St := (cond (cn1 .eq (b2i (isc (sD s) a1 0))) (t_Op_ask_10 fu s a1) (cond (cn1 .ne (b2i (f_Pa_answers s a1 a0))) (cond (cn2 .ne a0 (5 : Int32)) (t_Op_ask_29 fu (((F_pweighs fu 32) s a1 (1 : Int32)).2) a0 a2 a1 (((F_pweighs fu 32) s a1 (1 : Int32)).1)) (f_Op_setReal s (2 : Int32) (f_Re_ofInt (f_Pa_label s a1)))) (t_Op_ask_10 fu s a1)))
def w_Op_ask (fu : Nat) (s : St) (a0 : Int32) (a1 : Option Nat) (a2 : Int32) : Prop := (tho (sD s) a1 ∧ ((cn1 .eq (b2i (isc (sD s) a1 0))) = true → (w_Op_ask_10 fu s a1)) ∧ ((cn1 .eq (b2i (isc (sD s) a1 0))) = false → (cst (sD s) a1 0 ∧ (w_Pa_answers s a1 a0 ∧ (oC (sD s) a1 = some 4 ∧ ((cn1 .ne (b2i (f_Pa_answers s a1 a0))) = true → ((cn2 .ne a0 (5 : Int32)) = true → ((W_pweighs fu 32) s a1 (1 : Int32) ∧ (oC (sD s) a1 = some 4 ∧ (w_Op_ask_29 fu (((F_pweighs fu 32) s a1 (1 : Int32)).2) a0 a2 a1 (((F_pweighs fu 32) s a1 (1 : Int32)).1))))) ∧ ((cn2 .ne a0 (5 : Int32)) = false → (w_Pa_label s a1 ∧ (oC (sD s) a1 = some 4 ∧ (w_Op_setReal s (2 : Int32) (f_Re_ofInt (f_Pa_label s a1)) ∧ True))))) ∧ ((cn1 .ne (b2i (f_Pa_answers s a1 a0))) = false → (w_Op_ask_10 fu s a1)))))))
theorem c_Op_ask {d : Nat} (fu : Nat) (s : St) (a0 : Int32) (a1 : Option Nat) (a2 : Int32) (hw : w_Op_ask fu s a0 a1 a2) : X m_Op_ask (d + 36) 0 (entL 7 [.inr (.inr (some 8)), .inl a0, .inr (.inr a1), .inl a2]) [] (hp s) (qVs (f_Op_ask fu s a0 a1 a2)) := by
  unfold f_Op_ask
  unfold w_Op_ask at hw
  refine X_run 1 (i1 := 1) (L1 := [some (.inr (.inr (some 8))), some (.inl a0), some (.inr (.inr a1)), some (.inl a2), none, none, none]) (st1 := [.inr (.inr a1)]) rfl ?_
  obtain ⟨hc, hw⟩ := hw
  refine X_dinst rfl (by decide) hc ?_
  show X _ _ 2 [some (.inr (.inr (some 8))), some (.inl a0), some (.inr (.inr a1)), some (.inl a2), none, none, none] [.inl (b2i (isc (sD s) a1 0))] (hp s) _
  refine X_run 1 (i1 := cond (cn1 .eq (b2i (isc (sD s) a1 0))) 10 3) (L1 := [some (.inr (.inr (some 8))), some (.inl a0), some (.inr (.inr a1)), some (.inl a2), none, none, none]) (st1 := []) rfl ?_
  refine X_brq (fun hb => ?_) (fun hb => ?_)
  · have hw := hw.1 hb
    refine X_mask [true, false, true, false, true, true, true] ?_
    exact ct_Op_ask_10 fu s a1 hw
  · have hw := hw.2 hb
    refine X_run 1 (i1 := 4) (L1 := [some (.inr (.inr (some 8))), some (.inl a0), some (.inr (.inr a1)), some (.inl a2), none, none, none]) (st1 := [.inr (.inr a1)]) rfl ?_
    obtain ⟨hc, hw⟩ := hw
    refine X_dcast rfl hc ?_
    refine X_run 3 (i1 := 8) (L1 := [some (.inr (.inr (some 8))), some (.inl a0), some (.inr (.inr a1)), some (.inl a2), some (.inr (.inr a1)), none, none]) (st1 := [.inl a0, .inr (.inr a1)]) rfl ?_
    obtain ⟨hc, hw⟩ := hw
    obtain ⟨hr, hw⟩ := hw
    refine X_dcallv m_Pa_answers (As := [.inl a0]) (st := []) ok_Pa_answers rfl rfl rfl hr rfl (Nat.le_of_ble_eq_true rfl) (Nat.le_of_ble_eq_true rfl) (c_Pa_answers (d := d + 33) s a1 a0 hc) ?_
    rintro _ _ ⟨rfl, rfl⟩
    show X _ _ 9 [some (.inr (.inr (some 8))), some (.inl a0), some (.inr (.inr a1)), some (.inl a2), some (.inr (.inr a1)), none, none] [.inl (b2i (f_Pa_answers s a1 a0))] (hp s) _
    refine X_run 1 (i1 := cond (cn1 .ne (b2i (f_Pa_answers s a1 a0))) 14 10) (L1 := [some (.inr (.inr (some 8))), some (.inl a0), some (.inr (.inr a1)), some (.inl a2), some (.inr (.inr a1)), none, none]) (st1 := []) rfl ?_
    refine X_brq (fun hb => ?_) (fun hb => ?_)
    · have hw := hw.1 hb
      refine X_run 3 (i1 := cond (cn2 .ne a0 (5 : Int32)) 24 17) (L1 := [some (.inr (.inr (some 8))), some (.inl a0), some (.inr (.inr a1)), some (.inl a2), some (.inr (.inr a1)), none, none]) (st1 := []) rfl ?_
      refine X_brq (fun hb => ?_) (fun hb => ?_)
      · have hw := hw.1 hb
        refine X_run 2 (i1 := 26) (L1 := [some (.inr (.inr (some 8))), some (.inl a0), some (.inr (.inr a1)), some (.inl a2), some (.inr (.inr a1)), none, none]) (st1 := [.inr (.inr (some 8)), .inr (.inr a1)]) rfl ?_
        refine X_gF (v := .inr (.inr (some 1))) rfl rfl rfl rfl ?_
        refine X_run 1 (i1 := 28) (L1 := [some (.inr (.inr (some 8))), some (.inl a0), some (.inr (.inr a1)), some (.inl a2), some (.inr (.inr a1)), none, none]) (st1 := [.inl (1 : Int32), .inr (.inr (some 1)), .inr (.inr a1)]) rfl ?_
        obtain ⟨hc, hw⟩ := hw
        obtain ⟨hr, hw⟩ := hw
        refine X_dcallv m_Pa_weighs (As := [.inr (.inr (some 1)), .inl (1 : Int32)]) (st := []) ok_Pa_weighs rfl rfl rfl hr rfl (Nat.le_of_ble_eq_true rfl) (Nat.le_of_ble_eq_true rfl) ((cF_pweighs fu 32 (d)) s a1 (1 : Int32) hc) ?_
        rintro _ _ ⟨rfl, rfl⟩
        show X _ _ 29 [some (.inr (.inr (some 8))), some (.inl a0), some (.inr (.inr a1)), some (.inl a2), some (.inr (.inr a1)), none, none] [.inr (.inl (((F_pweighs fu 32) s a1 (1 : Int32)).1))] (hp (((F_pweighs fu 32) s a1 (1 : Int32)).2)) _
        show X _ _ 29 [some (.inr (.inr (some 8))), some (.inl a0), some (.inr (.inr a1)), some (.inl a2), some (.inr (.inr a1)), none, none] [.inr (.inl (((F_pweighs fu 32) s a1 (1 : Int32)).1))] (hp (((F_pweighs fu 32) s a1 (1 : Int32)).2)) _
        refine X_mask [true, true, false, true, true, true, true] ?_
        exact ct_Op_ask_29 fu (((F_pweighs fu 32) s a1 (1 : Int32)).2) a0 a2 a1 (((F_pweighs fu 32) s a1 (1 : Int32)).1) hw
      · have hw := hw.2 hb
        refine X_run 3 (i1 := 20) (L1 := [some (.inr (.inr (some 8))), some (.inl a0), some (.inr (.inr a1)), some (.inl a2), some (.inr (.inr a1)), none, none]) (st1 := [.inr (.inr a1), .inl (2 : Int32), .inr (.inr (some 8))]) rfl ?_
        obtain ⟨hc, hw⟩ := hw
        obtain ⟨hr, hw⟩ := hw
        refine X_dcallv m_Pa_label (As := []) (st := [.inl (2 : Int32), .inr (.inr (some 8))]) ok_Pa_label rfl rfl rfl hr rfl (Nat.le_of_ble_eq_true rfl) (Nat.le_of_ble_eq_true rfl) (c_Pa_label (d := d + 35) s a1 hc) ?_
        rintro _ _ ⟨rfl, rfl⟩
        show X _ _ 21 [some (.inr (.inr (some 8))), some (.inl a0), some (.inr (.inr a1)), some (.inl a2), some (.inr (.inr a1)), none, none] [.inl (f_Pa_label s a1), .inl (2 : Int32), .inr (.inr (some 8))] (hp s) _
        refine X_calls m_Re_ofInt (As := [.inl (f_Pa_label s a1)]) (st := [.inl (2 : Int32), .inr (.inr (some 8))]) ok_Re_ofInt rfl rfl rfl (Nat.le_of_ble_eq_true rfl) (Nat.le_of_ble_eq_true rfl) (c_Re_ofInt (d := d + 34) (f_Pa_label s a1)) ?_
        rintro _ _ ⟨rfl, rfl⟩
        show X _ _ 22 [some (.inr (.inr (some 8))), some (.inl a0), some (.inr (.inr a1)), some (.inl a2), some (.inr (.inr a1)), none, none] [.inr (.inl (f_Re_ofInt (f_Pa_label s a1))), .inl (2 : Int32), .inr (.inr (some 8))] (hp s) _
        obtain ⟨hc, hw⟩ := hw
        refine X_callv m_Op_setReal (As := [.inl (2 : Int32), .inr (.inl (f_Re_ofInt (f_Pa_label s a1)))]) (st := []) ok_Op_setReal rfl rfl rfl (hp_obj rfl) rfl (Nat.le_of_ble_eq_true rfl) (Nat.le_of_ble_eq_true rfl) (c_Op_setReal (d := d + 34) s (2 : Int32) (f_Re_ofInt (f_Pa_label s a1)) hc) ?_
        rintro _ _ ⟨rfl, rfl⟩
        show X _ _ 23 [some (.inr (.inr (some 8))), some (.inl a0), some (.inr (.inr a1)), some (.inl a2), some (.inr (.inr a1)), none, none] [] (hp (f_Op_setReal s (2 : Int32) (f_Re_ofInt (f_Pa_label s a1)))) _
        exact X_ret rfl rfl qVs_i
    · have hw := hw.2 hb
      refine X_mask [true, false, true, false, false, true, true] ?_
      exact ct_Op_ask_10 fu s a1 hw
def f_Op_tell (s : St) (a0 : Option Nat) : St := (cond (cn1 .eq (b2i (isc (sD s) a0 3))) (f_Op_miss s a0) (f_Le_faultTold s (gI (sD s) a0 0)))
def w_Op_tell (s : St) (a0 : Option Nat) : Prop := (tho (sD s) a0 ∧ ((cn1 .eq (b2i (isc (sD s) a0 3))) = true → (w_Op_miss s a0 ∧ True)) ∧ ((cn1 .eq (b2i (isc (sD s) a0 3))) = false → (cst (sD s) a0 3 ∧ (ob (sD s) a0 8 ∧ (w_Le_faultTold s (gI (sD s) a0 0) ∧ True)))))
theorem c_Op_tell {d : Nat} (s : St) (a0 : Option Nat) (hw : w_Op_tell s a0) : X m_Op_tell (d + 3) 0 (entL 3 [.inr (.inr (some 8)), .inr (.inr a0)]) [] (hp s) (qVs (f_Op_tell s a0)) := by
  unfold f_Op_tell
  unfold w_Op_tell at hw
  refine X_run 1 (i1 := 1) (L1 := [some (.inr (.inr (some 8))), some (.inr (.inr a0)), none]) (st1 := [.inr (.inr a0)]) rfl ?_
  obtain ⟨hc, hw⟩ := hw
  refine X_dinst rfl (by decide) hc ?_
  show X _ _ 2 [some (.inr (.inr (some 8))), some (.inr (.inr a0)), none] [.inl (b2i (isc (sD s) a0 3))] (hp s) _
  refine X_run 1 (i1 := cond (cn1 .eq (b2i (isc (sD s) a0 3))) 12 3) (L1 := [some (.inr (.inr (some 8))), some (.inr (.inr a0)), none]) (st1 := []) rfl ?_
  refine X_brq (fun hb => ?_) (fun hb => ?_)
  · have hw := hw.1 hb
    refine X_run 2 (i1 := 14) (L1 := [some (.inr (.inr (some 8))), some (.inr (.inr a0)), none]) (st1 := [.inr (.inr a0), .inr (.inr (some 8))]) rfl ?_
    obtain ⟨hc, hw⟩ := hw
    refine X_callv m_Op_miss (As := [.inr (.inr a0)]) (st := []) ok_Op_miss rfl rfl rfl (hp_obj rfl) rfl (Nat.le_of_ble_eq_true rfl) (Nat.le_of_ble_eq_true rfl) (c_Op_miss (d := d) s a0 hc) ?_
    rintro _ _ ⟨rfl, rfl⟩
    show X _ _ 15 [some (.inr (.inr (some 8))), some (.inr (.inr a0)), none] [] (hp (f_Op_miss s a0)) _
    exact X_ret rfl rfl qVs_i
  · have hw := hw.2 hb
    refine X_run 1 (i1 := 4) (L1 := [some (.inr (.inr (some 8))), some (.inr (.inr a0)), none]) (st1 := [.inr (.inr a0)]) rfl ?_
    obtain ⟨hc, hw⟩ := hw
    refine X_dcast rfl hc ?_
    refine X_run 2 (i1 := 7) (L1 := [some (.inr (.inr (some 8))), some (.inr (.inr a0)), some (.inr (.inr a0))]) (st1 := [.inr (.inr (some 8))]) rfl ?_
    refine X_gF (v := .inr (.inr (some 1))) rfl rfl rfl rfl ?_
    refine X_run 1 (i1 := 9) (L1 := [some (.inr (.inr (some 8))), some (.inr (.inr a0)), some (.inr (.inr a0))]) (st1 := [.inr (.inr a0), .inr (.inr (some 1))]) rfl ?_
    obtain ⟨hc, hw⟩ := hw
    refine X_dI rfl hc rfl ?_
    show X _ _ 10 [some (.inr (.inr (some 8))), some (.inr (.inr a0)), some (.inr (.inr a0))] [.inl (gI (sD s) a0 0), .inr (.inr (some 1))] (hp s) _
    obtain ⟨hc, hw⟩ := hw
    refine X_callv m_Le_faultTold (As := [.inl (gI (sD s) a0 0)]) (st := []) ok_Le_faultTold rfl rfl rfl (hp_obj rfl) rfl (Nat.le_of_ble_eq_true rfl) (Nat.le_of_ble_eq_true rfl) (c_Le_faultTold (d := d + 1) s (gI (sD s) a0 0) hc) ?_
    rintro _ _ ⟨rfl, rfl⟩
    show X _ _ 11 [some (.inr (.inr (some 8))), some (.inr (.inr a0)), some (.inr (.inr a0))] [] (hp (f_Le_faultTold s (gI (sD s) a0 0))) _
    refine X_run 1 (i1 := 15) (L1 := [some (.inr (.inr (some 8))), some (.inr (.inr a0)), some (.inr (.inr a0))]) (st1 := []) rfl ?_
    exact X_ret rfl rfl qVs_i
def t_Op_perform_163 (fu : Nat) (s : St) (w0 : Int32) (w1 : Int32) : St := (f_Op_setNumber s w1 w0)
def w_Op_perform_163 (fu : Nat) (s : St) (w0 : Int32) (w1 : Int32) : Prop := (w_Op_setNumber s w1 w0 ∧ True)
theorem ct_Op_perform_163 {d : Nat} (fu : Nat) (s : St) (w0 : Int32) (w1 : Int32) (hw : w_Op_perform_163 fu s w0 w1) : X m_Op_perform (d + 37) 163 [none, none, none] [.inl w0, .inl w1, .inr (.inr (some 8))] (hp s) (qVs (t_Op_perform_163 fu s w0 w1)) := by
  unfold t_Op_perform_163
  unfold w_Op_perform_163 at hw
  obtain ⟨hc, hw⟩ := hw
  refine X_callv m_Op_setNumber (As := [.inl w1, .inl w0]) (st := []) ok_Op_setNumber rfl rfl rfl (hp_obj rfl) rfl (Nat.le_of_ble_eq_true rfl) (Nat.le_of_ble_eq_true rfl) (c_Op_setNumber (d := d + 35) s w1 w0 hc) ?_
  rintro _ _ ⟨rfl, rfl⟩
  show X _ _ 164 [none, none, none] [] (hp (f_Op_setNumber s w1 w0)) _
  refine X_run 1 (i1 := 280) (L1 := [none, none, none]) (st1 := []) rfl ?_
  exact X_ret rfl rfl qVs_i
def t_Op_perform_103 (fu : Nat) (s : St) (w0 : Int32) (w1 : Int32) : St := (f_Op_setNumber s w1 w0)
def w_Op_perform_103 (fu : Nat) (s : St) (w0 : Int32) (w1 : Int32) : Prop := (w_Op_setNumber s w1 w0 ∧ True)
theorem ct_Op_perform_103 {d : Nat} (fu : Nat) (s : St) (w0 : Int32) (w1 : Int32) (hw : w_Op_perform_103 fu s w0 w1) : X m_Op_perform (d + 37) 103 [none, none, none] [.inl w0, .inl w1, .inr (.inr (some 8))] (hp s) (qVs (t_Op_perform_103 fu s w0 w1)) := by
  unfold t_Op_perform_103
  unfold w_Op_perform_103 at hw
  obtain ⟨hc, hw⟩ := hw
  refine X_callv m_Op_setNumber (As := [.inl w1, .inl w0]) (st := []) ok_Op_setNumber rfl rfl rfl (hp_obj rfl) rfl (Nat.le_of_ble_eq_true rfl) (Nat.le_of_ble_eq_true rfl) (c_Op_setNumber (d := d + 35) s w1 w0 hc) ?_
  rintro _ _ ⟨rfl, rfl⟩
  show X _ _ 104 [none, none, none] [] (hp (f_Op_setNumber s w1 w0)) _
  refine X_run 1 (i1 := 280) (L1 := [none, none, none]) (st1 := []) rfl ?_
  exact X_ret rfl rfl qVs_i
def f_Op_perform (fu : Nat) (s : St) (a0 : Int32) : St := (if (f_Op_operand (pI s 8 5 a0) (0 : Int32)) = (1 : Int32) then (f_Op_setNumber (pI s 8 5 a0) (1 : Int32) (Int64.toInt32 (f_Op_bytes fu (pI s 8 5 a0) (2 : Int32) (4 : Int32)))) else (if (f_Op_operand (pI s 8 5 a0) (0 : Int32)) = (2 : Int32) then (f_Op_setNumber (pI s 8 5 a0) (1 : Int32) (f_Op_numberAt (pI s 8 5 a0) (2 : Int32))) else (if (f_Op_operand (pI s 8 5 a0) (0 : Int32)) = (3 : Int32) then (f_Op_calculate (pI s 8 5 a0) (f_Op_operand (pI s 8 5 a0) (3 : Int32)) (f_Op_numberAt (pI s 8 5 a0) (1 : Int32)) (f_Op_numberAt (pI s 8 5 a0) (2 : Int32))) else (if (f_Op_operand (pI s 8 5 a0) (0 : Int32)) = (4 : Int32) then (f_Op_setReal (pI s 8 5 a0) (1 : Int32) (f_Re_plain (f_Op_bytes fu (pI s 8 5 a0) (2 : Int32) (8 : Int32)))) else (if (f_Op_operand (pI s 8 5 a0) (0 : Int32)) = (5 : Int32) then (f_Op_setReal (pI s 8 5 a0) (1 : Int32) (f_Re_ofInt (f_Op_numberAt (pI s 8 5 a0) (2 : Int32)))) else (if (f_Op_operand (pI s 8 5 a0) (0 : Int32)) = (6 : Int32) then (f_Op_setNumber (pI s 8 5 a0) (1 : Int32) (f_Re_toInt (f_Op_realAt (pI s 8 5 a0) (2 : Int32)))) else (if (f_Op_operand (pI s 8 5 a0) (0 : Int32)) = (7 : Int32) then (f_Op_setReal (pI s 8 5 a0) (1 : Int32) (f_Re_paired (f_Op_operand (pI s 8 5 a0) (3 : Int32)) (f_Op_realAt (pI s 8 5 a0) (1 : Int32)) (f_Op_realAt (pI s 8 5 a0) (2 : Int32)))) else (if (f_Op_operand (pI s 8 5 a0) (0 : Int32)) = (8 : Int32) then (f_Op_setReal (pI s 8 5 a0) (1 : Int32) (f_Re_changed (f_Op_operand (pI s 8 5 a0) (2 : Int32)) (f_Op_realAt (pI s 8 5 a0) (1 : Int32)))) else (if (f_Op_operand (pI s 8 5 a0) (0 : Int32)) = (9 : Int32) then (cond (cn1 .eq (b2i (f_Re_holds (f_Op_operand (pI s 8 5 a0) (4 : Int32)) (f_Op_realAt (pI s 8 5 a0) (2 : Int32)) (f_Op_realAt (pI s 8 5 a0) (3 : Int32))))) (t_Op_perform_103 fu (pI s 8 5 a0) (0 : Int32) (1 : Int32)) (t_Op_perform_103 fu (pI s 8 5 a0) (1 : Int32) (1 : Int32))) else (if (f_Op_operand (pI s 8 5 a0) (0 : Int32)) = (10 : Int32) then (f_Op_setSlot (pI s 8 5 a0) (1 : Int32) (f_Op_slotAt (pI s 8 5 a0) (2 : Int32))) else (if (f_Op_operand (pI s 8 5 a0) (0 : Int32)) = (11 : Int32) then (f_Op_setSlot (pI s 8 5 a0) (1 : Int32) none) else (if (f_Op_operand (pI s 8 5 a0) (0 : Int32)) = (12 : Int32) then (f_Op_makeRow (pI s 8 5 a0) (f_Op_numberAt (pI s 8 5 a0) (3 : Int32))) else (if (f_Op_operand (pI s 8 5 a0) (0 : Int32)) = (13 : Int32) then (f_Op_makeGrid fu (pI s 8 5 a0) (f_Op_numberAt (pI s 8 5 a0) (2 : Int32)) (f_Op_numberAt (pI s 8 5 a0) (3 : Int32))) else (if (f_Op_operand (pI s 8 5 a0) (0 : Int32)) = (14 : Int32) then (f_Op_makeBox (pI s 8 5 a0) (f_Op_numberAt (pI s 8 5 a0) (3 : Int32))) else (if (f_Op_operand (pI s 8 5 a0) (0 : Int32)) = (15 : Int32) then (f_Op_makePart (pI s 8 5 a0)) else (if (f_Op_operand (pI s 8 5 a0) (0 : Int32)) = (16 : Int32) then (f_Op_makeTrouble (pI s 8 5 a0)) else (if (f_Op_operand (pI s 8 5 a0) (0 : Int32)) = (17 : Int32) then (f_Op_countMembers (pI s 8 5 a0) (f_Op_slotAt (pI s 8 5 a0) (2 : Int32))) else (if (f_Op_operand (pI s 8 5 a0) (0 : Int32)) = (18 : Int32) then (cond (cn1 .eq (b2i (f_Op_fits (pI s 8 5 a0) (f_Op_slotAt (pI s 8 5 a0) (2 : Int32)) (f_Op_operand (pI s 8 5 a0) (3 : Int32))))) (t_Op_perform_163 fu (pI s 8 5 a0) (0 : Int32) (1 : Int32)) (t_Op_perform_163 fu (pI s 8 5 a0) (1 : Int32) (1 : Int32))) else (if (f_Op_operand (pI s 8 5 a0) (0 : Int32)) = (19 : Int32) then (f_Op_takeMember (pI s 8 5 a0) (f_Op_slotAt (pI s 8 5 a0) (3 : Int32)) (f_Op_numberAt (pI s 8 5 a0) (4 : Int32))) else (if (f_Op_operand (pI s 8 5 a0) (0 : Int32)) = (20 : Int32) then (f_Op_putMember (pI s 8 5 a0) (f_Op_slotAt (pI s 8 5 a0) (2 : Int32)) (f_Op_numberAt (pI s 8 5 a0) (3 : Int32))) else (if (f_Op_operand (pI s 8 5 a0) (0 : Int32)) = (21 : Int32) then (f_Op_copyMembers fu (pI s 8 5 a0) (f_Op_slotAt (pI s 8 5 a0) (1 : Int32)) (f_Op_slotAt (pI s 8 5 a0) (3 : Int32))) else (if (f_Op_operand (pI s 8 5 a0) (0 : Int32)) = (22 : Int32) then (f_Op_makeTwin fu (pI s 8 5 a0) (f_Op_slotAt (pI s 8 5 a0) (2 : Int32))) else (if (f_Op_operand (pI s 8 5 a0) (0 : Int32)) = (23 : Int32) then (f_Op_takeThing (pI s 8 5 a0) (9 : Int32) (f_Op_slotAt (pI s 8 5 a0) (2 : Int32)) (f_Op_numberAt (pI s 8 5 a0) (3 : Int32))) else (if (f_Op_operand (pI s 8 5 a0) (0 : Int32)) = (24 : Int32) then (f_Op_putThing (pI s 8 5 a0) (9 : Int32) (f_Op_slotAt (pI s 8 5 a0) (1 : Int32)) (f_Op_numberAt (pI s 8 5 a0) (2 : Int32)) (f_Op_slotAt (pI s 8 5 a0) (3 : Int32))) else (if (f_Op_operand (pI s 8 5 a0) (0 : Int32)) = (25 : Int32) then (f_Op_takeThing (pI s 8 5 a0) (10 : Int32) (f_Op_slotAt (pI s 8 5 a0) (2 : Int32)) (f_Op_numberAt (pI s 8 5 a0) (3 : Int32))) else (if (f_Op_operand (pI s 8 5 a0) (0 : Int32)) = (26 : Int32) then (f_Op_putThing (pI s 8 5 a0) (10 : Int32) (f_Op_slotAt (pI s 8 5 a0) (1 : Int32)) (f_Op_numberAt (pI s 8 5 a0) (2 : Int32)) (f_Op_slotAt (pI s 8 5 a0) (3 : Int32))) else (if (f_Op_operand (pI s 8 5 a0) (0 : Int32)) = (27 : Int32) then (f_Op_takeField (pI s 8 5 a0) (f_Op_operand (pI s 8 5 a0) (1 : Int32)) (f_Op_slotAt (pI s 8 5 a0) (3 : Int32))) else (if (f_Op_operand (pI s 8 5 a0) (0 : Int32)) = (28 : Int32) then (f_Op_putField (pI s 8 5 a0) (f_Op_operand (pI s 8 5 a0) (1 : Int32)) (f_Op_slotAt (pI s 8 5 a0) (2 : Int32))) else (if (f_Op_operand (pI s 8 5 a0) (0 : Int32)) = (29 : Int32) then (f_Op_ask fu (pI s 8 5 a0) (f_Op_operand (pI s 8 5 a0) (1 : Int32)) (f_Op_slotAt (pI s 8 5 a0) (3 : Int32)) (f_Op_numberAt (pI s 8 5 a0) (4 : Int32))) else (if (f_Op_operand (pI s 8 5 a0) (0 : Int32)) = (30 : Int32) then (pI s 8 5 a0) else (if (f_Op_operand (pI s 8 5 a0) (0 : Int32)) = (31 : Int32) then (pI s 8 5 a0) else (if (f_Op_operand (pI s 8 5 a0) (0 : Int32)) = (32 : Int32) then (pI s 8 5 a0) else (if (f_Op_operand (pI s 8 5 a0) (0 : Int32)) = (33 : Int32) then (pI s 8 5 a0) else (if (f_Op_operand (pI s 8 5 a0) (0 : Int32)) = (34 : Int32) then (f_Op_tell (pI s 8 5 a0) (f_Op_slotAt (pI s 8 5 a0) (1 : Int32))) else (pI s 8 5 a0)))))))))))))))))))))))))))))))))))
def w_Op_perform (fu : Nat) (s : St) (a0 : Int32) : Prop := (w_Op_operand (pI s 8 5 a0) (0 : Int32) ∧ (((f_Op_operand (pI s 8 5 a0) (0 : Int32)) = (1 : Int32) → (w_Op_bytes fu (pI s 8 5 a0) (2 : Int32) (4 : Int32) ∧ (w_Op_setNumber (pI s 8 5 a0) (1 : Int32) (Int64.toInt32 (f_Op_bytes fu (pI s 8 5 a0) (2 : Int32) (4 : Int32))) ∧ True))) ∧ (¬ (f_Op_operand (pI s 8 5 a0) (0 : Int32)) = (1 : Int32) → (((f_Op_operand (pI s 8 5 a0) (0 : Int32)) = (2 : Int32) → (w_Op_numberAt (pI s 8 5 a0) (2 : Int32) ∧ (w_Op_setNumber (pI s 8 5 a0) (1 : Int32) (f_Op_numberAt (pI s 8 5 a0) (2 : Int32)) ∧ True))) ∧ (¬ (f_Op_operand (pI s 8 5 a0) (0 : Int32)) = (2 : Int32) → (((f_Op_operand (pI s 8 5 a0) (0 : Int32)) = (3 : Int32) → (w_Op_operand (pI s 8 5 a0) (3 : Int32) ∧ (w_Op_numberAt (pI s 8 5 a0) (1 : Int32) ∧ (w_Op_numberAt (pI s 8 5 a0) (2 : Int32) ∧ (w_Op_calculate (pI s 8 5 a0) (f_Op_operand (pI s 8 5 a0) (3 : Int32)) (f_Op_numberAt (pI s 8 5 a0) (1 : Int32)) (f_Op_numberAt (pI s 8 5 a0) (2 : Int32)) ∧ True))))) ∧ (¬ (f_Op_operand (pI s 8 5 a0) (0 : Int32)) = (3 : Int32) → (((f_Op_operand (pI s 8 5 a0) (0 : Int32)) = (4 : Int32) → (w_Op_bytes fu (pI s 8 5 a0) (2 : Int32) (8 : Int32) ∧ (w_Op_setReal (pI s 8 5 a0) (1 : Int32) (f_Re_plain (f_Op_bytes fu (pI s 8 5 a0) (2 : Int32) (8 : Int32))) ∧ True))) ∧ (¬ (f_Op_operand (pI s 8 5 a0) (0 : Int32)) = (4 : Int32) → (((f_Op_operand (pI s 8 5 a0) (0 : Int32)) = (5 : Int32) → (w_Op_numberAt (pI s 8 5 a0) (2 : Int32) ∧ (w_Op_setReal (pI s 8 5 a0) (1 : Int32) (f_Re_ofInt (f_Op_numberAt (pI s 8 5 a0) (2 : Int32))) ∧ True))) ∧ (¬ (f_Op_operand (pI s 8 5 a0) (0 : Int32)) = (5 : Int32) → (((f_Op_operand (pI s 8 5 a0) (0 : Int32)) = (6 : Int32) → (w_Op_realAt (pI s 8 5 a0) (2 : Int32) ∧ (w_Op_setNumber (pI s 8 5 a0) (1 : Int32) (f_Re_toInt (f_Op_realAt (pI s 8 5 a0) (2 : Int32))) ∧ True))) ∧ (¬ (f_Op_operand (pI s 8 5 a0) (0 : Int32)) = (6 : Int32) → (((f_Op_operand (pI s 8 5 a0) (0 : Int32)) = (7 : Int32) → (w_Op_operand (pI s 8 5 a0) (3 : Int32) ∧ (w_Op_realAt (pI s 8 5 a0) (1 : Int32) ∧ (w_Op_realAt (pI s 8 5 a0) (2 : Int32) ∧ (w_Op_setReal (pI s 8 5 a0) (1 : Int32) (f_Re_paired (f_Op_operand (pI s 8 5 a0) (3 : Int32)) (f_Op_realAt (pI s 8 5 a0) (1 : Int32)) (f_Op_realAt (pI s 8 5 a0) (2 : Int32))) ∧ True))))) ∧ (¬ (f_Op_operand (pI s 8 5 a0) (0 : Int32)) = (7 : Int32) → (((f_Op_operand (pI s 8 5 a0) (0 : Int32)) = (8 : Int32) → (w_Op_operand (pI s 8 5 a0) (2 : Int32) ∧ (w_Op_realAt (pI s 8 5 a0) (1 : Int32) ∧ (w_Op_setReal (pI s 8 5 a0) (1 : Int32) (f_Re_changed (f_Op_operand (pI s 8 5 a0) (2 : Int32)) (f_Op_realAt (pI s 8 5 a0) (1 : Int32))) ∧ True)))) ∧ (¬ (f_Op_operand (pI s 8 5 a0) (0 : Int32)) = (8 : Int32) → (((f_Op_operand (pI s 8 5 a0) (0 : Int32)) = (9 : Int32) → (w_Op_operand (pI s 8 5 a0) (4 : Int32) ∧ (w_Op_realAt (pI s 8 5 a0) (2 : Int32) ∧ (w_Op_realAt (pI s 8 5 a0) (3 : Int32) ∧ ((cn1 .eq (b2i (f_Re_holds (f_Op_operand (pI s 8 5 a0) (4 : Int32)) (f_Op_realAt (pI s 8 5 a0) (2 : Int32)) (f_Op_realAt (pI s 8 5 a0) (3 : Int32))))) = true → (w_Op_perform_103 fu (pI s 8 5 a0) (0 : Int32) (1 : Int32))) ∧ ((cn1 .eq (b2i (f_Re_holds (f_Op_operand (pI s 8 5 a0) (4 : Int32)) (f_Op_realAt (pI s 8 5 a0) (2 : Int32)) (f_Op_realAt (pI s 8 5 a0) (3 : Int32))))) = false → (w_Op_perform_103 fu (pI s 8 5 a0) (1 : Int32) (1 : Int32))))))) ∧ (¬ (f_Op_operand (pI s 8 5 a0) (0 : Int32)) = (9 : Int32) → (((f_Op_operand (pI s 8 5 a0) (0 : Int32)) = (10 : Int32) → (w_Op_slotAt (pI s 8 5 a0) (2 : Int32) ∧ (w_Op_setSlot (pI s 8 5 a0) (1 : Int32) (f_Op_slotAt (pI s 8 5 a0) (2 : Int32)) ∧ True))) ∧ (¬ (f_Op_operand (pI s 8 5 a0) (0 : Int32)) = (10 : Int32) → (((f_Op_operand (pI s 8 5 a0) (0 : Int32)) = (11 : Int32) → (w_Op_setSlot (pI s 8 5 a0) (1 : Int32) none ∧ True)) ∧ (¬ (f_Op_operand (pI s 8 5 a0) (0 : Int32)) = (11 : Int32) → (((f_Op_operand (pI s 8 5 a0) (0 : Int32)) = (12 : Int32) → (w_Op_numberAt (pI s 8 5 a0) (3 : Int32) ∧ (w_Op_makeRow (pI s 8 5 a0) (f_Op_numberAt (pI s 8 5 a0) (3 : Int32)) ∧ True))) ∧ (¬ (f_Op_operand (pI s 8 5 a0) (0 : Int32)) = (12 : Int32) → (((f_Op_operand (pI s 8 5 a0) (0 : Int32)) = (13 : Int32) → (w_Op_numberAt (pI s 8 5 a0) (2 : Int32) ∧ (w_Op_numberAt (pI s 8 5 a0) (3 : Int32) ∧ (w_Op_makeGrid fu (pI s 8 5 a0) (f_Op_numberAt (pI s 8 5 a0) (2 : Int32)) (f_Op_numberAt (pI s 8 5 a0) (3 : Int32)) ∧ True)))) ∧ (¬ (f_Op_operand (pI s 8 5 a0) (0 : Int32)) = (13 : Int32) → (((f_Op_operand (pI s 8 5 a0) (0 : Int32)) = (14 : Int32) → (w_Op_numberAt (pI s 8 5 a0) (3 : Int32) ∧ (w_Op_makeBox (pI s 8 5 a0) (f_Op_numberAt (pI s 8 5 a0) (3 : Int32)) ∧ True))) ∧ (¬ (f_Op_operand (pI s 8 5 a0) (0 : Int32)) = (14 : Int32) → (((f_Op_operand (pI s 8 5 a0) (0 : Int32)) = (15 : Int32) → (w_Op_makePart (pI s 8 5 a0) ∧ True)) ∧ (¬ (f_Op_operand (pI s 8 5 a0) (0 : Int32)) = (15 : Int32) → (((f_Op_operand (pI s 8 5 a0) (0 : Int32)) = (16 : Int32) → (w_Op_makeTrouble (pI s 8 5 a0) ∧ True)) ∧ (¬ (f_Op_operand (pI s 8 5 a0) (0 : Int32)) = (16 : Int32) → (((f_Op_operand (pI s 8 5 a0) (0 : Int32)) = (17 : Int32) → (w_Op_slotAt (pI s 8 5 a0) (2 : Int32) ∧ (w_Op_countMembers (pI s 8 5 a0) (f_Op_slotAt (pI s 8 5 a0) (2 : Int32)) ∧ True))) ∧ (¬ (f_Op_operand (pI s 8 5 a0) (0 : Int32)) = (17 : Int32) → (((f_Op_operand (pI s 8 5 a0) (0 : Int32)) = (18 : Int32) → (w_Op_slotAt (pI s 8 5 a0) (2 : Int32) ∧ (w_Op_operand (pI s 8 5 a0) (3 : Int32) ∧ (w_Op_fits (pI s 8 5 a0) (f_Op_slotAt (pI s 8 5 a0) (2 : Int32)) (f_Op_operand (pI s 8 5 a0) (3 : Int32)) ∧ ((cn1 .eq (b2i (f_Op_fits (pI s 8 5 a0) (f_Op_slotAt (pI s 8 5 a0) (2 : Int32)) (f_Op_operand (pI s 8 5 a0) (3 : Int32))))) = true → (w_Op_perform_163 fu (pI s 8 5 a0) (0 : Int32) (1 : Int32))) ∧ ((cn1 .eq (b2i (f_Op_fits (pI s 8 5 a0) (f_Op_slotAt (pI s 8 5 a0) (2 : Int32)) (f_Op_operand (pI s 8 5 a0) (3 : Int32))))) = false → (w_Op_perform_163 fu (pI s 8 5 a0) (1 : Int32) (1 : Int32))))))) ∧ (¬ (f_Op_operand (pI s 8 5 a0) (0 : Int32)) = (18 : Int32) → (((f_Op_operand (pI s 8 5 a0) (0 : Int32)) = (19 : Int32) → (w_Op_slotAt (pI s 8 5 a0) (3 : Int32) ∧ (w_Op_numberAt (pI s 8 5 a0) (4 : Int32) ∧ (w_Op_takeMember (pI s 8 5 a0) (f_Op_slotAt (pI s 8 5 a0) (3 : Int32)) (f_Op_numberAt (pI s 8 5 a0) (4 : Int32)) ∧ True)))) ∧ (¬ (f_Op_operand (pI s 8 5 a0) (0 : Int32)) = (19 : Int32) → (((f_Op_operand (pI s 8 5 a0) (0 : Int32)) = (20 : Int32) → (w_Op_slotAt (pI s 8 5 a0) (2 : Int32) ∧ (w_Op_numberAt (pI s 8 5 a0) (3 : Int32) ∧ (w_Op_putMember (pI s 8 5 a0) (f_Op_slotAt (pI s 8 5 a0) (2 : Int32)) (f_Op_numberAt (pI s 8 5 a0) (3 : Int32)) ∧ True)))) ∧ (¬ (f_Op_operand (pI s 8 5 a0) (0 : Int32)) = (20 : Int32) → (((f_Op_operand (pI s 8 5 a0) (0 : Int32)) = (21 : Int32) → (w_Op_slotAt (pI s 8 5 a0) (1 : Int32) ∧ (w_Op_slotAt (pI s 8 5 a0) (3 : Int32) ∧ (w_Op_copyMembers fu (pI s 8 5 a0) (f_Op_slotAt (pI s 8 5 a0) (1 : Int32)) (f_Op_slotAt (pI s 8 5 a0) (3 : Int32)) ∧ True)))) ∧ (¬ (f_Op_operand (pI s 8 5 a0) (0 : Int32)) = (21 : Int32) → (((f_Op_operand (pI s 8 5 a0) (0 : Int32)) = (22 : Int32) → (w_Op_slotAt (pI s 8 5 a0) (2 : Int32) ∧ (w_Op_makeTwin fu (pI s 8 5 a0) (f_Op_slotAt (pI s 8 5 a0) (2 : Int32)) ∧ True))) ∧ (¬ (f_Op_operand (pI s 8 5 a0) (0 : Int32)) = (22 : Int32) → (((f_Op_operand (pI s 8 5 a0) (0 : Int32)) = (23 : Int32) → (w_Op_slotAt (pI s 8 5 a0) (2 : Int32) ∧ (w_Op_numberAt (pI s 8 5 a0) (3 : Int32) ∧ (w_Op_takeThing (pI s 8 5 a0) (9 : Int32) (f_Op_slotAt (pI s 8 5 a0) (2 : Int32)) (f_Op_numberAt (pI s 8 5 a0) (3 : Int32)) ∧ True)))) ∧ (¬ (f_Op_operand (pI s 8 5 a0) (0 : Int32)) = (23 : Int32) → (((f_Op_operand (pI s 8 5 a0) (0 : Int32)) = (24 : Int32) → (w_Op_slotAt (pI s 8 5 a0) (1 : Int32) ∧ (w_Op_numberAt (pI s 8 5 a0) (2 : Int32) ∧ (w_Op_slotAt (pI s 8 5 a0) (3 : Int32) ∧ (w_Op_putThing (pI s 8 5 a0) (9 : Int32) (f_Op_slotAt (pI s 8 5 a0) (1 : Int32)) (f_Op_numberAt (pI s 8 5 a0) (2 : Int32)) (f_Op_slotAt (pI s 8 5 a0) (3 : Int32)) ∧ True))))) ∧ (¬ (f_Op_operand (pI s 8 5 a0) (0 : Int32)) = (24 : Int32) → (((f_Op_operand (pI s 8 5 a0) (0 : Int32)) = (25 : Int32) → (w_Op_slotAt (pI s 8 5 a0) (2 : Int32) ∧ (w_Op_numberAt (pI s 8 5 a0) (3 : Int32) ∧ (w_Op_takeThing (pI s 8 5 a0) (10 : Int32) (f_Op_slotAt (pI s 8 5 a0) (2 : Int32)) (f_Op_numberAt (pI s 8 5 a0) (3 : Int32)) ∧ True)))) ∧ (¬ (f_Op_operand (pI s 8 5 a0) (0 : Int32)) = (25 : Int32) → (((f_Op_operand (pI s 8 5 a0) (0 : Int32)) = (26 : Int32) → (w_Op_slotAt (pI s 8 5 a0) (1 : Int32) ∧ (w_Op_numberAt (pI s 8 5 a0) (2 : Int32) ∧ (w_Op_slotAt (pI s 8 5 a0) (3 : Int32) ∧ (w_Op_putThing (pI s 8 5 a0) (10 : Int32) (f_Op_slotAt (pI s 8 5 a0) (1 : Int32)) (f_Op_numberAt (pI s 8 5 a0) (2 : Int32)) (f_Op_slotAt (pI s 8 5 a0) (3 : Int32)) ∧ True))))) ∧ (¬ (f_Op_operand (pI s 8 5 a0) (0 : Int32)) = (26 : Int32) → (((f_Op_operand (pI s 8 5 a0) (0 : Int32)) = (27 : Int32) → (w_Op_operand (pI s 8 5 a0) (1 : Int32) ∧ (w_Op_slotAt (pI s 8 5 a0) (3 : Int32) ∧ (w_Op_takeField (pI s 8 5 a0) (f_Op_operand (pI s 8 5 a0) (1 : Int32)) (f_Op_slotAt (pI s 8 5 a0) (3 : Int32)) ∧ True)))) ∧ (¬ (f_Op_operand (pI s 8 5 a0) (0 : Int32)) = (27 : Int32) → (((f_Op_operand (pI s 8 5 a0) (0 : Int32)) = (28 : Int32) → (w_Op_operand (pI s 8 5 a0) (1 : Int32) ∧ (w_Op_slotAt (pI s 8 5 a0) (2 : Int32) ∧ (w_Op_putField (pI s 8 5 a0) (f_Op_operand (pI s 8 5 a0) (1 : Int32)) (f_Op_slotAt (pI s 8 5 a0) (2 : Int32)) ∧ True)))) ∧ (¬ (f_Op_operand (pI s 8 5 a0) (0 : Int32)) = (28 : Int32) → (((f_Op_operand (pI s 8 5 a0) (0 : Int32)) = (29 : Int32) → (w_Op_operand (pI s 8 5 a0) (1 : Int32) ∧ (w_Op_slotAt (pI s 8 5 a0) (3 : Int32) ∧ (w_Op_numberAt (pI s 8 5 a0) (4 : Int32) ∧ (w_Op_ask fu (pI s 8 5 a0) (f_Op_operand (pI s 8 5 a0) (1 : Int32)) (f_Op_slotAt (pI s 8 5 a0) (3 : Int32)) (f_Op_numberAt (pI s 8 5 a0) (4 : Int32)) ∧ True))))) ∧ (¬ (f_Op_operand (pI s 8 5 a0) (0 : Int32)) = (29 : Int32) → (((f_Op_operand (pI s 8 5 a0) (0 : Int32)) = (30 : Int32) → True) ∧ (¬ (f_Op_operand (pI s 8 5 a0) (0 : Int32)) = (30 : Int32) → (((f_Op_operand (pI s 8 5 a0) (0 : Int32)) = (31 : Int32) → True) ∧ (¬ (f_Op_operand (pI s 8 5 a0) (0 : Int32)) = (31 : Int32) → (((f_Op_operand (pI s 8 5 a0) (0 : Int32)) = (32 : Int32) → True) ∧ (¬ (f_Op_operand (pI s 8 5 a0) (0 : Int32)) = (32 : Int32) → (((f_Op_operand (pI s 8 5 a0) (0 : Int32)) = (33 : Int32) → True) ∧ (¬ (f_Op_operand (pI s 8 5 a0) (0 : Int32)) = (33 : Int32) → (((f_Op_operand (pI s 8 5 a0) (0 : Int32)) = (34 : Int32) → (w_Op_slotAt (pI s 8 5 a0) (1 : Int32) ∧ (w_Op_tell (pI s 8 5 a0) (f_Op_slotAt (pI s 8 5 a0) (1 : Int32)) ∧ True))) ∧ (¬ (f_Op_operand (pI s 8 5 a0) (0 : Int32)) = (34 : Int32) → True)))))))))))))))))))))))))))))))))))))))))))))))))))))))))))))))))))))
theorem c_Op_perform {d : Nat} (fu : Nat) (s : St) (a0 : Int32) (hw : w_Op_perform fu s a0) : X m_Op_perform (d + 37) 0 (entL 3 [.inr (.inr (some 8)), .inl a0]) [] (hp s) (qVs (f_Op_perform fu s a0)) := by
  unfold f_Op_perform
  unfold w_Op_perform at hw
  refine X_run 2 (i1 := 2) (L1 := [some (.inr (.inr (some 8))), some (.inl a0), none]) (st1 := [.inl a0, .inr (.inr (some 8))]) rfl ?_
  refine X_pI rfl rfl rfl rfl ?_
  refine X_run 2 (i1 := 5) (L1 := [some (.inr (.inr (some 8))), some (.inl a0), none]) (st1 := [.inl (0 : Int32), .inr (.inr (some 8))]) rfl ?_
  obtain ⟨hc, hw⟩ := hw
  refine X_callv m_Op_operand (As := [.inl (0 : Int32)]) (st := []) ok_Op_operand rfl rfl rfl (hp_obj rfl) rfl (Nat.le_of_ble_eq_true rfl) (Nat.le_of_ble_eq_true rfl) (c_Op_operand (d := d + 36) (pI s 8 5 a0) (0 : Int32) hc) ?_
  rintro _ _ ⟨rfl, rfl⟩
  show X _ _ 6 [some (.inr (.inr (some 8))), some (.inl a0), none] [.inl (f_Op_operand (pI s 8 5 a0) (0 : Int32))] (hp (pI s 8 5 a0)) _
  refine X_run 2 (i1 := 8) (L1 := [some (.inr (.inr (some 8))), some (.inl a0), some (.inl (f_Op_operand (pI s 8 5 a0) (0 : Int32)))]) (st1 := [.inl (f_Op_operand (pI s 8 5 a0) (0 : Int32))]) rfl ?_
  refine X_itq (fun h => ?_) (fun h8_0 => ?_)
  · refine X_tsk rfl h rfl ?_
    have hw := hw.1 h
    refine X_run 5 (i1 := 14) (L1 := [some (.inr (.inr (some 8))), some (.inl a0), some (.inl (f_Op_operand (pI s 8 5 a0) (0 : Int32)))]) (st1 := [.inl (4 : Int32), .inl (2 : Int32), .inr (.inr (some 8)), .inl (1 : Int32), .inr (.inr (some 8))]) rfl ?_
    obtain ⟨hc, hw⟩ := hw
    refine X_callv m_Op_bytes (As := [.inl (2 : Int32), .inl (4 : Int32)]) (st := [.inl (1 : Int32), .inr (.inr (some 8))]) ok_Op_bytes rfl rfl rfl (hp_obj rfl) rfl (Nat.le_of_ble_eq_true rfl) (Nat.le_of_ble_eq_true rfl) (c_Op_bytes (d := d + 35) fu (pI s 8 5 a0) (2 : Int32) (4 : Int32) hc) ?_
    rintro _ _ ⟨rfl, rfl⟩
    show X _ _ 15 [some (.inr (.inr (some 8))), some (.inl a0), some (.inl (f_Op_operand (pI s 8 5 a0) (0 : Int32)))] [.inr (.inl (f_Op_bytes fu (pI s 8 5 a0) (2 : Int32) (4 : Int32))), .inl (1 : Int32), .inr (.inr (some 8))] (hp (pI s 8 5 a0)) _
    refine X_run 1 (i1 := 16) (L1 := [some (.inr (.inr (some 8))), some (.inl a0), some (.inl (f_Op_operand (pI s 8 5 a0) (0 : Int32)))]) (st1 := [.inl (Int64.toInt32 (f_Op_bytes fu (pI s 8 5 a0) (2 : Int32) (4 : Int32))), .inl (1 : Int32), .inr (.inr (some 8))]) rfl ?_
    obtain ⟨hc, hw⟩ := hw
    refine X_callv m_Op_setNumber (As := [.inl (1 : Int32), .inl (Int64.toInt32 (f_Op_bytes fu (pI s 8 5 a0) (2 : Int32) (4 : Int32)))]) (st := []) ok_Op_setNumber rfl rfl rfl (hp_obj rfl) rfl (Nat.le_of_ble_eq_true rfl) (Nat.le_of_ble_eq_true rfl) (c_Op_setNumber (d := d + 35) (pI s 8 5 a0) (1 : Int32) (Int64.toInt32 (f_Op_bytes fu (pI s 8 5 a0) (2 : Int32) (4 : Int32))) hc) ?_
    rintro _ _ ⟨rfl, rfl⟩
    show X _ _ 17 [some (.inr (.inr (some 8))), some (.inl a0), some (.inl (f_Op_operand (pI s 8 5 a0) (0 : Int32)))] [] (hp (f_Op_setNumber (pI s 8 5 a0) (1 : Int32) (Int64.toInt32 (f_Op_bytes fu (pI s 8 5 a0) (2 : Int32) (4 : Int32))))) _
    refine X_run 1 (i1 := 280) (L1 := [some (.inr (.inr (some 8))), some (.inl a0), some (.inl (f_Op_operand (pI s 8 5 a0) (0 : Int32)))]) (st1 := []) rfl ?_
    exact X_ret rfl rfl qVs_i
  have hw := hw.2 h8_0
  refine X_itq (fun h => ?_) (fun h8_1 => ?_)
  · refine X_tsk rfl h rfl ?_
    have hw := hw.1 h
    refine X_run 4 (i1 := 22) (L1 := [some (.inr (.inr (some 8))), some (.inl a0), some (.inl (f_Op_operand (pI s 8 5 a0) (0 : Int32)))]) (st1 := [.inl (2 : Int32), .inr (.inr (some 8)), .inl (1 : Int32), .inr (.inr (some 8))]) rfl ?_
    obtain ⟨hc, hw⟩ := hw
    refine X_callv m_Op_numberAt (As := [.inl (2 : Int32)]) (st := [.inl (1 : Int32), .inr (.inr (some 8))]) ok_Op_numberAt rfl rfl rfl (hp_obj rfl) rfl (Nat.le_of_ble_eq_true rfl) (Nat.le_of_ble_eq_true rfl) (c_Op_numberAt (d := d + 35) (pI s 8 5 a0) (2 : Int32) hc) ?_
    rintro _ _ ⟨rfl, rfl⟩
    show X _ _ 23 [some (.inr (.inr (some 8))), some (.inl a0), some (.inl (f_Op_operand (pI s 8 5 a0) (0 : Int32)))] [.inl (f_Op_numberAt (pI s 8 5 a0) (2 : Int32)), .inl (1 : Int32), .inr (.inr (some 8))] (hp (pI s 8 5 a0)) _
    obtain ⟨hc, hw⟩ := hw
    refine X_callv m_Op_setNumber (As := [.inl (1 : Int32), .inl (f_Op_numberAt (pI s 8 5 a0) (2 : Int32))]) (st := []) ok_Op_setNumber rfl rfl rfl (hp_obj rfl) rfl (Nat.le_of_ble_eq_true rfl) (Nat.le_of_ble_eq_true rfl) (c_Op_setNumber (d := d + 35) (pI s 8 5 a0) (1 : Int32) (f_Op_numberAt (pI s 8 5 a0) (2 : Int32)) hc) ?_
    rintro _ _ ⟨rfl, rfl⟩
    show X _ _ 24 [some (.inr (.inr (some 8))), some (.inl a0), some (.inl (f_Op_operand (pI s 8 5 a0) (0 : Int32)))] [] (hp (f_Op_setNumber (pI s 8 5 a0) (1 : Int32) (f_Op_numberAt (pI s 8 5 a0) (2 : Int32)))) _
    refine X_run 1 (i1 := 280) (L1 := [some (.inr (.inr (some 8))), some (.inl a0), some (.inl (f_Op_operand (pI s 8 5 a0) (0 : Int32)))]) (st1 := []) rfl ?_
    exact X_ret rfl rfl qVs_i
  have hw := hw.2 h8_1
  refine X_itq (fun h => ?_) (fun h8_2 => ?_)
  · refine X_tsk rfl h rfl ?_
    have hw := hw.1 h
    refine X_run 3 (i1 := 28) (L1 := [some (.inr (.inr (some 8))), some (.inl a0), some (.inl (f_Op_operand (pI s 8 5 a0) (0 : Int32)))]) (st1 := [.inl (3 : Int32), .inr (.inr (some 8)), .inr (.inr (some 8))]) rfl ?_
    obtain ⟨hc, hw⟩ := hw
    refine X_callv m_Op_operand (As := [.inl (3 : Int32)]) (st := [.inr (.inr (some 8))]) ok_Op_operand rfl rfl rfl (hp_obj rfl) rfl (Nat.le_of_ble_eq_true rfl) (Nat.le_of_ble_eq_true rfl) (c_Op_operand (d := d + 36) (pI s 8 5 a0) (3 : Int32) hc) ?_
    rintro _ _ ⟨rfl, rfl⟩
    show X _ _ 29 [some (.inr (.inr (some 8))), some (.inl a0), some (.inl (f_Op_operand (pI s 8 5 a0) (0 : Int32)))] [.inl (f_Op_operand (pI s 8 5 a0) (3 : Int32)), .inr (.inr (some 8))] (hp (pI s 8 5 a0)) _
    refine X_run 2 (i1 := 31) (L1 := [some (.inr (.inr (some 8))), some (.inl a0), some (.inl (f_Op_operand (pI s 8 5 a0) (0 : Int32)))]) (st1 := [.inl (1 : Int32), .inr (.inr (some 8)), .inl (f_Op_operand (pI s 8 5 a0) (3 : Int32)), .inr (.inr (some 8))]) rfl ?_
    obtain ⟨hc, hw⟩ := hw
    refine X_callv m_Op_numberAt (As := [.inl (1 : Int32)]) (st := [.inl (f_Op_operand (pI s 8 5 a0) (3 : Int32)), .inr (.inr (some 8))]) ok_Op_numberAt rfl rfl rfl (hp_obj rfl) rfl (Nat.le_of_ble_eq_true rfl) (Nat.le_of_ble_eq_true rfl) (c_Op_numberAt (d := d + 35) (pI s 8 5 a0) (1 : Int32) hc) ?_
    rintro _ _ ⟨rfl, rfl⟩
    show X _ _ 32 [some (.inr (.inr (some 8))), some (.inl a0), some (.inl (f_Op_operand (pI s 8 5 a0) (0 : Int32)))] [.inl (f_Op_numberAt (pI s 8 5 a0) (1 : Int32)), .inl (f_Op_operand (pI s 8 5 a0) (3 : Int32)), .inr (.inr (some 8))] (hp (pI s 8 5 a0)) _
    refine X_run 2 (i1 := 34) (L1 := [some (.inr (.inr (some 8))), some (.inl a0), some (.inl (f_Op_operand (pI s 8 5 a0) (0 : Int32)))]) (st1 := [.inl (2 : Int32), .inr (.inr (some 8)), .inl (f_Op_numberAt (pI s 8 5 a0) (1 : Int32)), .inl (f_Op_operand (pI s 8 5 a0) (3 : Int32)), .inr (.inr (some 8))]) rfl ?_
    obtain ⟨hc, hw⟩ := hw
    refine X_callv m_Op_numberAt (As := [.inl (2 : Int32)]) (st := [.inl (f_Op_numberAt (pI s 8 5 a0) (1 : Int32)), .inl (f_Op_operand (pI s 8 5 a0) (3 : Int32)), .inr (.inr (some 8))]) ok_Op_numberAt rfl rfl rfl (hp_obj rfl) rfl (Nat.le_of_ble_eq_true rfl) (Nat.le_of_ble_eq_true rfl) (c_Op_numberAt (d := d + 35) (pI s 8 5 a0) (2 : Int32) hc) ?_
    rintro _ _ ⟨rfl, rfl⟩
    show X _ _ 35 [some (.inr (.inr (some 8))), some (.inl a0), some (.inl (f_Op_operand (pI s 8 5 a0) (0 : Int32)))] [.inl (f_Op_numberAt (pI s 8 5 a0) (2 : Int32)), .inl (f_Op_numberAt (pI s 8 5 a0) (1 : Int32)), .inl (f_Op_operand (pI s 8 5 a0) (3 : Int32)), .inr (.inr (some 8))] (hp (pI s 8 5 a0)) _
    obtain ⟨hc, hw⟩ := hw
    refine X_callv m_Op_calculate (As := [.inl (f_Op_operand (pI s 8 5 a0) (3 : Int32)), .inl (f_Op_numberAt (pI s 8 5 a0) (1 : Int32)), .inl (f_Op_numberAt (pI s 8 5 a0) (2 : Int32))]) (st := []) ok_Op_calculate rfl rfl rfl (hp_obj rfl) rfl (Nat.le_of_ble_eq_true rfl) (Nat.le_of_ble_eq_true rfl) (c_Op_calculate (d := d + 34) (pI s 8 5 a0) (f_Op_operand (pI s 8 5 a0) (3 : Int32)) (f_Op_numberAt (pI s 8 5 a0) (1 : Int32)) (f_Op_numberAt (pI s 8 5 a0) (2 : Int32)) hc) ?_
    rintro _ _ ⟨rfl, rfl⟩
    show X _ _ 36 [some (.inr (.inr (some 8))), some (.inl a0), some (.inl (f_Op_operand (pI s 8 5 a0) (0 : Int32)))] [] (hp (f_Op_calculate (pI s 8 5 a0) (f_Op_operand (pI s 8 5 a0) (3 : Int32)) (f_Op_numberAt (pI s 8 5 a0) (1 : Int32)) (f_Op_numberAt (pI s 8 5 a0) (2 : Int32)))) _
    refine X_run 1 (i1 := 280) (L1 := [some (.inr (.inr (some 8))), some (.inl a0), some (.inl (f_Op_operand (pI s 8 5 a0) (0 : Int32)))]) (st1 := []) rfl ?_
    exact X_ret rfl rfl qVs_i
  have hw := hw.2 h8_2
  refine X_itq (fun h => ?_) (fun h8_3 => ?_)
  · refine X_tsk rfl h rfl ?_
    have hw := hw.1 h
    refine X_run 5 (i1 := 42) (L1 := [some (.inr (.inr (some 8))), some (.inl a0), some (.inl (f_Op_operand (pI s 8 5 a0) (0 : Int32)))]) (st1 := [.inl (8 : Int32), .inl (2 : Int32), .inr (.inr (some 8)), .inl (1 : Int32), .inr (.inr (some 8))]) rfl ?_
    obtain ⟨hc, hw⟩ := hw
    refine X_callv m_Op_bytes (As := [.inl (2 : Int32), .inl (8 : Int32)]) (st := [.inl (1 : Int32), .inr (.inr (some 8))]) ok_Op_bytes rfl rfl rfl (hp_obj rfl) rfl (Nat.le_of_ble_eq_true rfl) (Nat.le_of_ble_eq_true rfl) (c_Op_bytes (d := d + 35) fu (pI s 8 5 a0) (2 : Int32) (8 : Int32) hc) ?_
    rintro _ _ ⟨rfl, rfl⟩
    show X _ _ 43 [some (.inr (.inr (some 8))), some (.inl a0), some (.inl (f_Op_operand (pI s 8 5 a0) (0 : Int32)))] [.inr (.inl (f_Op_bytes fu (pI s 8 5 a0) (2 : Int32) (8 : Int32))), .inl (1 : Int32), .inr (.inr (some 8))] (hp (pI s 8 5 a0)) _
    refine X_calls m_Re_plain (As := [.inr (.inl (f_Op_bytes fu (pI s 8 5 a0) (2 : Int32) (8 : Int32)))]) (st := [.inl (1 : Int32), .inr (.inr (some 8))]) ok_Re_plain rfl rfl rfl (Nat.le_of_ble_eq_true rfl) (Nat.le_of_ble_eq_true rfl) (c_Re_plain (d := d + 35) (f_Op_bytes fu (pI s 8 5 a0) (2 : Int32) (8 : Int32))) ?_
    rintro _ _ ⟨rfl, rfl⟩
    show X _ _ 44 [some (.inr (.inr (some 8))), some (.inl a0), some (.inl (f_Op_operand (pI s 8 5 a0) (0 : Int32)))] [.inr (.inl (f_Re_plain (f_Op_bytes fu (pI s 8 5 a0) (2 : Int32) (8 : Int32)))), .inl (1 : Int32), .inr (.inr (some 8))] (hp (pI s 8 5 a0)) _
    obtain ⟨hc, hw⟩ := hw
    refine X_callv m_Op_setReal (As := [.inl (1 : Int32), .inr (.inl (f_Re_plain (f_Op_bytes fu (pI s 8 5 a0) (2 : Int32) (8 : Int32))))]) (st := []) ok_Op_setReal rfl rfl rfl (hp_obj rfl) rfl (Nat.le_of_ble_eq_true rfl) (Nat.le_of_ble_eq_true rfl) (c_Op_setReal (d := d + 35) (pI s 8 5 a0) (1 : Int32) (f_Re_plain (f_Op_bytes fu (pI s 8 5 a0) (2 : Int32) (8 : Int32))) hc) ?_
    rintro _ _ ⟨rfl, rfl⟩
    show X _ _ 45 [some (.inr (.inr (some 8))), some (.inl a0), some (.inl (f_Op_operand (pI s 8 5 a0) (0 : Int32)))] [] (hp (f_Op_setReal (pI s 8 5 a0) (1 : Int32) (f_Re_plain (f_Op_bytes fu (pI s 8 5 a0) (2 : Int32) (8 : Int32))))) _
    refine X_run 1 (i1 := 280) (L1 := [some (.inr (.inr (some 8))), some (.inl a0), some (.inl (f_Op_operand (pI s 8 5 a0) (0 : Int32)))]) (st1 := []) rfl ?_
    exact X_ret rfl rfl qVs_i
  have hw := hw.2 h8_3
  refine X_itq (fun h => ?_) (fun h8_4 => ?_)
  · refine X_tsk rfl h rfl ?_
    have hw := hw.1 h
    refine X_run 4 (i1 := 50) (L1 := [some (.inr (.inr (some 8))), some (.inl a0), some (.inl (f_Op_operand (pI s 8 5 a0) (0 : Int32)))]) (st1 := [.inl (2 : Int32), .inr (.inr (some 8)), .inl (1 : Int32), .inr (.inr (some 8))]) rfl ?_
    obtain ⟨hc, hw⟩ := hw
    refine X_callv m_Op_numberAt (As := [.inl (2 : Int32)]) (st := [.inl (1 : Int32), .inr (.inr (some 8))]) ok_Op_numberAt rfl rfl rfl (hp_obj rfl) rfl (Nat.le_of_ble_eq_true rfl) (Nat.le_of_ble_eq_true rfl) (c_Op_numberAt (d := d + 35) (pI s 8 5 a0) (2 : Int32) hc) ?_
    rintro _ _ ⟨rfl, rfl⟩
    show X _ _ 51 [some (.inr (.inr (some 8))), some (.inl a0), some (.inl (f_Op_operand (pI s 8 5 a0) (0 : Int32)))] [.inl (f_Op_numberAt (pI s 8 5 a0) (2 : Int32)), .inl (1 : Int32), .inr (.inr (some 8))] (hp (pI s 8 5 a0)) _
    refine X_calls m_Re_ofInt (As := [.inl (f_Op_numberAt (pI s 8 5 a0) (2 : Int32))]) (st := [.inl (1 : Int32), .inr (.inr (some 8))]) ok_Re_ofInt rfl rfl rfl (Nat.le_of_ble_eq_true rfl) (Nat.le_of_ble_eq_true rfl) (c_Re_ofInt (d := d + 35) (f_Op_numberAt (pI s 8 5 a0) (2 : Int32))) ?_
    rintro _ _ ⟨rfl, rfl⟩
    show X _ _ 52 [some (.inr (.inr (some 8))), some (.inl a0), some (.inl (f_Op_operand (pI s 8 5 a0) (0 : Int32)))] [.inr (.inl (f_Re_ofInt (f_Op_numberAt (pI s 8 5 a0) (2 : Int32)))), .inl (1 : Int32), .inr (.inr (some 8))] (hp (pI s 8 5 a0)) _
    obtain ⟨hc, hw⟩ := hw
    refine X_callv m_Op_setReal (As := [.inl (1 : Int32), .inr (.inl (f_Re_ofInt (f_Op_numberAt (pI s 8 5 a0) (2 : Int32))))]) (st := []) ok_Op_setReal rfl rfl rfl (hp_obj rfl) rfl (Nat.le_of_ble_eq_true rfl) (Nat.le_of_ble_eq_true rfl) (c_Op_setReal (d := d + 35) (pI s 8 5 a0) (1 : Int32) (f_Re_ofInt (f_Op_numberAt (pI s 8 5 a0) (2 : Int32))) hc) ?_
    rintro _ _ ⟨rfl, rfl⟩
    show X _ _ 53 [some (.inr (.inr (some 8))), some (.inl a0), some (.inl (f_Op_operand (pI s 8 5 a0) (0 : Int32)))] [] (hp (f_Op_setReal (pI s 8 5 a0) (1 : Int32) (f_Re_ofInt (f_Op_numberAt (pI s 8 5 a0) (2 : Int32))))) _
    refine X_run 1 (i1 := 280) (L1 := [some (.inr (.inr (some 8))), some (.inl a0), some (.inl (f_Op_operand (pI s 8 5 a0) (0 : Int32)))]) (st1 := []) rfl ?_
    exact X_ret rfl rfl qVs_i
  have hw := hw.2 h8_4
  refine X_itq (fun h => ?_) (fun h8_5 => ?_)
  · refine X_tsk rfl h rfl ?_
    have hw := hw.1 h
    refine X_run 4 (i1 := 58) (L1 := [some (.inr (.inr (some 8))), some (.inl a0), some (.inl (f_Op_operand (pI s 8 5 a0) (0 : Int32)))]) (st1 := [.inl (2 : Int32), .inr (.inr (some 8)), .inl (1 : Int32), .inr (.inr (some 8))]) rfl ?_
    obtain ⟨hc, hw⟩ := hw
    refine X_callv m_Op_realAt (As := [.inl (2 : Int32)]) (st := [.inl (1 : Int32), .inr (.inr (some 8))]) ok_Op_realAt rfl rfl rfl (hp_obj rfl) rfl (Nat.le_of_ble_eq_true rfl) (Nat.le_of_ble_eq_true rfl) (c_Op_realAt (d := d + 35) (pI s 8 5 a0) (2 : Int32) hc) ?_
    rintro _ _ ⟨rfl, rfl⟩
    show X _ _ 59 [some (.inr (.inr (some 8))), some (.inl a0), some (.inl (f_Op_operand (pI s 8 5 a0) (0 : Int32)))] [.inr (.inl (f_Op_realAt (pI s 8 5 a0) (2 : Int32))), .inl (1 : Int32), .inr (.inr (some 8))] (hp (pI s 8 5 a0)) _
    refine X_calls m_Re_toInt (As := [.inr (.inl (f_Op_realAt (pI s 8 5 a0) (2 : Int32)))]) (st := [.inl (1 : Int32), .inr (.inr (some 8))]) ok_Re_toInt rfl rfl rfl (Nat.le_of_ble_eq_true rfl) (Nat.le_of_ble_eq_true rfl) (c_Re_toInt (d := d + 35) (f_Op_realAt (pI s 8 5 a0) (2 : Int32))) ?_
    rintro _ _ ⟨rfl, rfl⟩
    show X _ _ 60 [some (.inr (.inr (some 8))), some (.inl a0), some (.inl (f_Op_operand (pI s 8 5 a0) (0 : Int32)))] [.inl (f_Re_toInt (f_Op_realAt (pI s 8 5 a0) (2 : Int32))), .inl (1 : Int32), .inr (.inr (some 8))] (hp (pI s 8 5 a0)) _
    obtain ⟨hc, hw⟩ := hw
    refine X_callv m_Op_setNumber (As := [.inl (1 : Int32), .inl (f_Re_toInt (f_Op_realAt (pI s 8 5 a0) (2 : Int32)))]) (st := []) ok_Op_setNumber rfl rfl rfl (hp_obj rfl) rfl (Nat.le_of_ble_eq_true rfl) (Nat.le_of_ble_eq_true rfl) (c_Op_setNumber (d := d + 35) (pI s 8 5 a0) (1 : Int32) (f_Re_toInt (f_Op_realAt (pI s 8 5 a0) (2 : Int32))) hc) ?_
    rintro _ _ ⟨rfl, rfl⟩
    show X _ _ 61 [some (.inr (.inr (some 8))), some (.inl a0), some (.inl (f_Op_operand (pI s 8 5 a0) (0 : Int32)))] [] (hp (f_Op_setNumber (pI s 8 5 a0) (1 : Int32) (f_Re_toInt (f_Op_realAt (pI s 8 5 a0) (2 : Int32))))) _
    refine X_run 1 (i1 := 280) (L1 := [some (.inr (.inr (some 8))), some (.inl a0), some (.inl (f_Op_operand (pI s 8 5 a0) (0 : Int32)))]) (st1 := []) rfl ?_
    exact X_ret rfl rfl qVs_i
  have hw := hw.2 h8_5
  refine X_itq (fun h => ?_) (fun h8_6 => ?_)
  · refine X_tsk rfl h rfl ?_
    have hw := hw.1 h
    refine X_run 4 (i1 := 66) (L1 := [some (.inr (.inr (some 8))), some (.inl a0), some (.inl (f_Op_operand (pI s 8 5 a0) (0 : Int32)))]) (st1 := [.inl (3 : Int32), .inr (.inr (some 8)), .inl (1 : Int32), .inr (.inr (some 8))]) rfl ?_
    obtain ⟨hc, hw⟩ := hw
    refine X_callv m_Op_operand (As := [.inl (3 : Int32)]) (st := [.inl (1 : Int32), .inr (.inr (some 8))]) ok_Op_operand rfl rfl rfl (hp_obj rfl) rfl (Nat.le_of_ble_eq_true rfl) (Nat.le_of_ble_eq_true rfl) (c_Op_operand (d := d + 36) (pI s 8 5 a0) (3 : Int32) hc) ?_
    rintro _ _ ⟨rfl, rfl⟩
    show X _ _ 67 [some (.inr (.inr (some 8))), some (.inl a0), some (.inl (f_Op_operand (pI s 8 5 a0) (0 : Int32)))] [.inl (f_Op_operand (pI s 8 5 a0) (3 : Int32)), .inl (1 : Int32), .inr (.inr (some 8))] (hp (pI s 8 5 a0)) _
    refine X_run 2 (i1 := 69) (L1 := [some (.inr (.inr (some 8))), some (.inl a0), some (.inl (f_Op_operand (pI s 8 5 a0) (0 : Int32)))]) (st1 := [.inl (1 : Int32), .inr (.inr (some 8)), .inl (f_Op_operand (pI s 8 5 a0) (3 : Int32)), .inl (1 : Int32), .inr (.inr (some 8))]) rfl ?_
    obtain ⟨hc, hw⟩ := hw
    refine X_callv m_Op_realAt (As := [.inl (1 : Int32)]) (st := [.inl (f_Op_operand (pI s 8 5 a0) (3 : Int32)), .inl (1 : Int32), .inr (.inr (some 8))]) ok_Op_realAt rfl rfl rfl (hp_obj rfl) rfl (Nat.le_of_ble_eq_true rfl) (Nat.le_of_ble_eq_true rfl) (c_Op_realAt (d := d + 35) (pI s 8 5 a0) (1 : Int32) hc) ?_
    rintro _ _ ⟨rfl, rfl⟩
    show X _ _ 70 [some (.inr (.inr (some 8))), some (.inl a0), some (.inl (f_Op_operand (pI s 8 5 a0) (0 : Int32)))] [.inr (.inl (f_Op_realAt (pI s 8 5 a0) (1 : Int32))), .inl (f_Op_operand (pI s 8 5 a0) (3 : Int32)), .inl (1 : Int32), .inr (.inr (some 8))] (hp (pI s 8 5 a0)) _
    refine X_run 2 (i1 := 72) (L1 := [some (.inr (.inr (some 8))), some (.inl a0), some (.inl (f_Op_operand (pI s 8 5 a0) (0 : Int32)))]) (st1 := [.inl (2 : Int32), .inr (.inr (some 8)), .inr (.inl (f_Op_realAt (pI s 8 5 a0) (1 : Int32))), .inl (f_Op_operand (pI s 8 5 a0) (3 : Int32)), .inl (1 : Int32), .inr (.inr (some 8))]) rfl ?_
    obtain ⟨hc, hw⟩ := hw
    refine X_callv m_Op_realAt (As := [.inl (2 : Int32)]) (st := [.inr (.inl (f_Op_realAt (pI s 8 5 a0) (1 : Int32))), .inl (f_Op_operand (pI s 8 5 a0) (3 : Int32)), .inl (1 : Int32), .inr (.inr (some 8))]) ok_Op_realAt rfl rfl rfl (hp_obj rfl) rfl (Nat.le_of_ble_eq_true rfl) (Nat.le_of_ble_eq_true rfl) (c_Op_realAt (d := d + 35) (pI s 8 5 a0) (2 : Int32) hc) ?_
    rintro _ _ ⟨rfl, rfl⟩
    show X _ _ 73 [some (.inr (.inr (some 8))), some (.inl a0), some (.inl (f_Op_operand (pI s 8 5 a0) (0 : Int32)))] [.inr (.inl (f_Op_realAt (pI s 8 5 a0) (2 : Int32))), .inr (.inl (f_Op_realAt (pI s 8 5 a0) (1 : Int32))), .inl (f_Op_operand (pI s 8 5 a0) (3 : Int32)), .inl (1 : Int32), .inr (.inr (some 8))] (hp (pI s 8 5 a0)) _
    refine X_calls m_Re_paired (As := [.inl (f_Op_operand (pI s 8 5 a0) (3 : Int32)), .inr (.inl (f_Op_realAt (pI s 8 5 a0) (1 : Int32))), .inr (.inl (f_Op_realAt (pI s 8 5 a0) (2 : Int32)))]) (st := [.inl (1 : Int32), .inr (.inr (some 8))]) ok_Re_paired rfl rfl rfl (Nat.le_of_ble_eq_true rfl) (Nat.le_of_ble_eq_true rfl) (c_Re_paired (d := d + 33) (f_Op_operand (pI s 8 5 a0) (3 : Int32)) (f_Op_realAt (pI s 8 5 a0) (1 : Int32)) (f_Op_realAt (pI s 8 5 a0) (2 : Int32))) ?_
    rintro _ _ ⟨rfl, rfl⟩
    show X _ _ 74 [some (.inr (.inr (some 8))), some (.inl a0), some (.inl (f_Op_operand (pI s 8 5 a0) (0 : Int32)))] [.inr (.inl (f_Re_paired (f_Op_operand (pI s 8 5 a0) (3 : Int32)) (f_Op_realAt (pI s 8 5 a0) (1 : Int32)) (f_Op_realAt (pI s 8 5 a0) (2 : Int32)))), .inl (1 : Int32), .inr (.inr (some 8))] (hp (pI s 8 5 a0)) _
    obtain ⟨hc, hw⟩ := hw
    refine X_callv m_Op_setReal (As := [.inl (1 : Int32), .inr (.inl (f_Re_paired (f_Op_operand (pI s 8 5 a0) (3 : Int32)) (f_Op_realAt (pI s 8 5 a0) (1 : Int32)) (f_Op_realAt (pI s 8 5 a0) (2 : Int32))))]) (st := []) ok_Op_setReal rfl rfl rfl (hp_obj rfl) rfl (Nat.le_of_ble_eq_true rfl) (Nat.le_of_ble_eq_true rfl) (c_Op_setReal (d := d + 35) (pI s 8 5 a0) (1 : Int32) (f_Re_paired (f_Op_operand (pI s 8 5 a0) (3 : Int32)) (f_Op_realAt (pI s 8 5 a0) (1 : Int32)) (f_Op_realAt (pI s 8 5 a0) (2 : Int32))) hc) ?_
    rintro _ _ ⟨rfl, rfl⟩
    show X _ _ 75 [some (.inr (.inr (some 8))), some (.inl a0), some (.inl (f_Op_operand (pI s 8 5 a0) (0 : Int32)))] [] (hp (f_Op_setReal (pI s 8 5 a0) (1 : Int32) (f_Re_paired (f_Op_operand (pI s 8 5 a0) (3 : Int32)) (f_Op_realAt (pI s 8 5 a0) (1 : Int32)) (f_Op_realAt (pI s 8 5 a0) (2 : Int32))))) _
    refine X_run 1 (i1 := 280) (L1 := [some (.inr (.inr (some 8))), some (.inl a0), some (.inl (f_Op_operand (pI s 8 5 a0) (0 : Int32)))]) (st1 := []) rfl ?_
    exact X_ret rfl rfl qVs_i
  have hw := hw.2 h8_6
  refine X_itq (fun h => ?_) (fun h8_7 => ?_)
  · refine X_tsk rfl h rfl ?_
    have hw := hw.1 h
    refine X_run 4 (i1 := 80) (L1 := [some (.inr (.inr (some 8))), some (.inl a0), some (.inl (f_Op_operand (pI s 8 5 a0) (0 : Int32)))]) (st1 := [.inl (2 : Int32), .inr (.inr (some 8)), .inl (1 : Int32), .inr (.inr (some 8))]) rfl ?_
    obtain ⟨hc, hw⟩ := hw
    refine X_callv m_Op_operand (As := [.inl (2 : Int32)]) (st := [.inl (1 : Int32), .inr (.inr (some 8))]) ok_Op_operand rfl rfl rfl (hp_obj rfl) rfl (Nat.le_of_ble_eq_true rfl) (Nat.le_of_ble_eq_true rfl) (c_Op_operand (d := d + 36) (pI s 8 5 a0) (2 : Int32) hc) ?_
    rintro _ _ ⟨rfl, rfl⟩
    show X _ _ 81 [some (.inr (.inr (some 8))), some (.inl a0), some (.inl (f_Op_operand (pI s 8 5 a0) (0 : Int32)))] [.inl (f_Op_operand (pI s 8 5 a0) (2 : Int32)), .inl (1 : Int32), .inr (.inr (some 8))] (hp (pI s 8 5 a0)) _
    refine X_run 2 (i1 := 83) (L1 := [some (.inr (.inr (some 8))), some (.inl a0), some (.inl (f_Op_operand (pI s 8 5 a0) (0 : Int32)))]) (st1 := [.inl (1 : Int32), .inr (.inr (some 8)), .inl (f_Op_operand (pI s 8 5 a0) (2 : Int32)), .inl (1 : Int32), .inr (.inr (some 8))]) rfl ?_
    obtain ⟨hc, hw⟩ := hw
    refine X_callv m_Op_realAt (As := [.inl (1 : Int32)]) (st := [.inl (f_Op_operand (pI s 8 5 a0) (2 : Int32)), .inl (1 : Int32), .inr (.inr (some 8))]) ok_Op_realAt rfl rfl rfl (hp_obj rfl) rfl (Nat.le_of_ble_eq_true rfl) (Nat.le_of_ble_eq_true rfl) (c_Op_realAt (d := d + 35) (pI s 8 5 a0) (1 : Int32) hc) ?_
    rintro _ _ ⟨rfl, rfl⟩
    show X _ _ 84 [some (.inr (.inr (some 8))), some (.inl a0), some (.inl (f_Op_operand (pI s 8 5 a0) (0 : Int32)))] [.inr (.inl (f_Op_realAt (pI s 8 5 a0) (1 : Int32))), .inl (f_Op_operand (pI s 8 5 a0) (2 : Int32)), .inl (1 : Int32), .inr (.inr (some 8))] (hp (pI s 8 5 a0)) _
    refine X_calls m_Re_changed (As := [.inl (f_Op_operand (pI s 8 5 a0) (2 : Int32)), .inr (.inl (f_Op_realAt (pI s 8 5 a0) (1 : Int32)))]) (st := [.inl (1 : Int32), .inr (.inr (some 8))]) ok_Re_changed rfl rfl rfl (Nat.le_of_ble_eq_true rfl) (Nat.le_of_ble_eq_true rfl) (c_Re_changed (d := d + 33) (f_Op_operand (pI s 8 5 a0) (2 : Int32)) (f_Op_realAt (pI s 8 5 a0) (1 : Int32))) ?_
    rintro _ _ ⟨rfl, rfl⟩
    show X _ _ 85 [some (.inr (.inr (some 8))), some (.inl a0), some (.inl (f_Op_operand (pI s 8 5 a0) (0 : Int32)))] [.inr (.inl (f_Re_changed (f_Op_operand (pI s 8 5 a0) (2 : Int32)) (f_Op_realAt (pI s 8 5 a0) (1 : Int32)))), .inl (1 : Int32), .inr (.inr (some 8))] (hp (pI s 8 5 a0)) _
    obtain ⟨hc, hw⟩ := hw
    refine X_callv m_Op_setReal (As := [.inl (1 : Int32), .inr (.inl (f_Re_changed (f_Op_operand (pI s 8 5 a0) (2 : Int32)) (f_Op_realAt (pI s 8 5 a0) (1 : Int32))))]) (st := []) ok_Op_setReal rfl rfl rfl (hp_obj rfl) rfl (Nat.le_of_ble_eq_true rfl) (Nat.le_of_ble_eq_true rfl) (c_Op_setReal (d := d + 35) (pI s 8 5 a0) (1 : Int32) (f_Re_changed (f_Op_operand (pI s 8 5 a0) (2 : Int32)) (f_Op_realAt (pI s 8 5 a0) (1 : Int32))) hc) ?_
    rintro _ _ ⟨rfl, rfl⟩
    show X _ _ 86 [some (.inr (.inr (some 8))), some (.inl a0), some (.inl (f_Op_operand (pI s 8 5 a0) (0 : Int32)))] [] (hp (f_Op_setReal (pI s 8 5 a0) (1 : Int32) (f_Re_changed (f_Op_operand (pI s 8 5 a0) (2 : Int32)) (f_Op_realAt (pI s 8 5 a0) (1 : Int32))))) _
    refine X_run 1 (i1 := 280) (L1 := [some (.inr (.inr (some 8))), some (.inl a0), some (.inl (f_Op_operand (pI s 8 5 a0) (0 : Int32)))]) (st1 := []) rfl ?_
    exact X_ret rfl rfl qVs_i
  have hw := hw.2 h8_7
  refine X_itq (fun h => ?_) (fun h8_8 => ?_)
  · refine X_tsk rfl h rfl ?_
    have hw := hw.1 h
    refine X_run 4 (i1 := 91) (L1 := [some (.inr (.inr (some 8))), some (.inl a0), some (.inl (f_Op_operand (pI s 8 5 a0) (0 : Int32)))]) (st1 := [.inl (4 : Int32), .inr (.inr (some 8)), .inl (1 : Int32), .inr (.inr (some 8))]) rfl ?_
    obtain ⟨hc, hw⟩ := hw
    refine X_callv m_Op_operand (As := [.inl (4 : Int32)]) (st := [.inl (1 : Int32), .inr (.inr (some 8))]) ok_Op_operand rfl rfl rfl (hp_obj rfl) rfl (Nat.le_of_ble_eq_true rfl) (Nat.le_of_ble_eq_true rfl) (c_Op_operand (d := d + 36) (pI s 8 5 a0) (4 : Int32) hc) ?_
    rintro _ _ ⟨rfl, rfl⟩
    show X _ _ 92 [some (.inr (.inr (some 8))), some (.inl a0), some (.inl (f_Op_operand (pI s 8 5 a0) (0 : Int32)))] [.inl (f_Op_operand (pI s 8 5 a0) (4 : Int32)), .inl (1 : Int32), .inr (.inr (some 8))] (hp (pI s 8 5 a0)) _
    refine X_run 2 (i1 := 94) (L1 := [some (.inr (.inr (some 8))), some (.inl a0), some (.inl (f_Op_operand (pI s 8 5 a0) (0 : Int32)))]) (st1 := [.inl (2 : Int32), .inr (.inr (some 8)), .inl (f_Op_operand (pI s 8 5 a0) (4 : Int32)), .inl (1 : Int32), .inr (.inr (some 8))]) rfl ?_
    obtain ⟨hc, hw⟩ := hw
    refine X_callv m_Op_realAt (As := [.inl (2 : Int32)]) (st := [.inl (f_Op_operand (pI s 8 5 a0) (4 : Int32)), .inl (1 : Int32), .inr (.inr (some 8))]) ok_Op_realAt rfl rfl rfl (hp_obj rfl) rfl (Nat.le_of_ble_eq_true rfl) (Nat.le_of_ble_eq_true rfl) (c_Op_realAt (d := d + 35) (pI s 8 5 a0) (2 : Int32) hc) ?_
    rintro _ _ ⟨rfl, rfl⟩
    show X _ _ 95 [some (.inr (.inr (some 8))), some (.inl a0), some (.inl (f_Op_operand (pI s 8 5 a0) (0 : Int32)))] [.inr (.inl (f_Op_realAt (pI s 8 5 a0) (2 : Int32))), .inl (f_Op_operand (pI s 8 5 a0) (4 : Int32)), .inl (1 : Int32), .inr (.inr (some 8))] (hp (pI s 8 5 a0)) _
    refine X_run 2 (i1 := 97) (L1 := [some (.inr (.inr (some 8))), some (.inl a0), some (.inl (f_Op_operand (pI s 8 5 a0) (0 : Int32)))]) (st1 := [.inl (3 : Int32), .inr (.inr (some 8)), .inr (.inl (f_Op_realAt (pI s 8 5 a0) (2 : Int32))), .inl (f_Op_operand (pI s 8 5 a0) (4 : Int32)), .inl (1 : Int32), .inr (.inr (some 8))]) rfl ?_
    obtain ⟨hc, hw⟩ := hw
    refine X_callv m_Op_realAt (As := [.inl (3 : Int32)]) (st := [.inr (.inl (f_Op_realAt (pI s 8 5 a0) (2 : Int32))), .inl (f_Op_operand (pI s 8 5 a0) (4 : Int32)), .inl (1 : Int32), .inr (.inr (some 8))]) ok_Op_realAt rfl rfl rfl (hp_obj rfl) rfl (Nat.le_of_ble_eq_true rfl) (Nat.le_of_ble_eq_true rfl) (c_Op_realAt (d := d + 35) (pI s 8 5 a0) (3 : Int32) hc) ?_
    rintro _ _ ⟨rfl, rfl⟩
    show X _ _ 98 [some (.inr (.inr (some 8))), some (.inl a0), some (.inl (f_Op_operand (pI s 8 5 a0) (0 : Int32)))] [.inr (.inl (f_Op_realAt (pI s 8 5 a0) (3 : Int32))), .inr (.inl (f_Op_realAt (pI s 8 5 a0) (2 : Int32))), .inl (f_Op_operand (pI s 8 5 a0) (4 : Int32)), .inl (1 : Int32), .inr (.inr (some 8))] (hp (pI s 8 5 a0)) _
    refine X_calls m_Re_holds (As := [.inl (f_Op_operand (pI s 8 5 a0) (4 : Int32)), .inr (.inl (f_Op_realAt (pI s 8 5 a0) (2 : Int32))), .inr (.inl (f_Op_realAt (pI s 8 5 a0) (3 : Int32)))]) (st := [.inl (1 : Int32), .inr (.inr (some 8))]) ok_Re_holds rfl rfl rfl (Nat.le_of_ble_eq_true rfl) (Nat.le_of_ble_eq_true rfl) (c_Re_holds (d := d + 35) (f_Op_operand (pI s 8 5 a0) (4 : Int32)) (f_Op_realAt (pI s 8 5 a0) (2 : Int32)) (f_Op_realAt (pI s 8 5 a0) (3 : Int32))) ?_
    rintro _ _ ⟨rfl, rfl⟩
    show X _ _ 99 [some (.inr (.inr (some 8))), some (.inl a0), some (.inl (f_Op_operand (pI s 8 5 a0) (0 : Int32)))] [.inl (b2i (f_Re_holds (f_Op_operand (pI s 8 5 a0) (4 : Int32)) (f_Op_realAt (pI s 8 5 a0) (2 : Int32)) (f_Op_realAt (pI s 8 5 a0) (3 : Int32)))), .inl (1 : Int32), .inr (.inr (some 8))] (hp (pI s 8 5 a0)) _
    refine X_run 1 (i1 := cond (cn1 .eq (b2i (f_Re_holds (f_Op_operand (pI s 8 5 a0) (4 : Int32)) (f_Op_realAt (pI s 8 5 a0) (2 : Int32)) (f_Op_realAt (pI s 8 5 a0) (3 : Int32))))) 102 100) (L1 := [some (.inr (.inr (some 8))), some (.inl a0), some (.inl (f_Op_operand (pI s 8 5 a0) (0 : Int32)))]) (st1 := [.inl (1 : Int32), .inr (.inr (some 8))]) rfl ?_
    refine X_brq (fun hb => ?_) (fun hb => ?_)
    · have hw := hw.1 hb
      refine X_run 1 (i1 := 103) (L1 := [some (.inr (.inr (some 8))), some (.inl a0), some (.inl (f_Op_operand (pI s 8 5 a0) (0 : Int32)))]) (st1 := [.inl (0 : Int32), .inl (1 : Int32), .inr (.inr (some 8))]) rfl ?_
      refine X_mask [false, false, false] ?_
      exact ct_Op_perform_103 fu (pI s 8 5 a0) (0 : Int32) (1 : Int32) hw
    · have hw := hw.2 hb
      refine X_run 2 (i1 := 103) (L1 := [some (.inr (.inr (some 8))), some (.inl a0), some (.inl (f_Op_operand (pI s 8 5 a0) (0 : Int32)))]) (st1 := [.inl (1 : Int32), .inl (1 : Int32), .inr (.inr (some 8))]) rfl ?_
      refine X_mask [false, false, false] ?_
      exact ct_Op_perform_103 fu (pI s 8 5 a0) (1 : Int32) (1 : Int32) hw
  have hw := hw.2 h8_8
  refine X_itq (fun h => ?_) (fun h8_9 => ?_)
  · refine X_tsk rfl h rfl ?_
    have hw := hw.1 h
    refine X_run 4 (i1 := 109) (L1 := [some (.inr (.inr (some 8))), some (.inl a0), some (.inl (f_Op_operand (pI s 8 5 a0) (0 : Int32)))]) (st1 := [.inl (2 : Int32), .inr (.inr (some 8)), .inl (1 : Int32), .inr (.inr (some 8))]) rfl ?_
    obtain ⟨hc, hw⟩ := hw
    refine X_callv m_Op_slotAt (As := [.inl (2 : Int32)]) (st := [.inl (1 : Int32), .inr (.inr (some 8))]) ok_Op_slotAt rfl rfl rfl (hp_obj rfl) rfl (Nat.le_of_ble_eq_true rfl) (Nat.le_of_ble_eq_true rfl) (c_Op_slotAt (d := d + 35) (pI s 8 5 a0) (2 : Int32) hc) ?_
    rintro _ _ ⟨rfl, rfl⟩
    show X _ _ 110 [some (.inr (.inr (some 8))), some (.inl a0), some (.inl (f_Op_operand (pI s 8 5 a0) (0 : Int32)))] [.inr (.inr (f_Op_slotAt (pI s 8 5 a0) (2 : Int32))), .inl (1 : Int32), .inr (.inr (some 8))] (hp (pI s 8 5 a0)) _
    obtain ⟨hc, hw⟩ := hw
    refine X_callv m_Op_setSlot (As := [.inl (1 : Int32), .inr (.inr (f_Op_slotAt (pI s 8 5 a0) (2 : Int32)))]) (st := []) ok_Op_setSlot rfl rfl rfl (hp_obj rfl) rfl (Nat.le_of_ble_eq_true rfl) (Nat.le_of_ble_eq_true rfl) (c_Op_setSlot (d := d + 35) (pI s 8 5 a0) (1 : Int32) (f_Op_slotAt (pI s 8 5 a0) (2 : Int32)) hc) ?_
    rintro _ _ ⟨rfl, rfl⟩
    show X _ _ 111 [some (.inr (.inr (some 8))), some (.inl a0), some (.inl (f_Op_operand (pI s 8 5 a0) (0 : Int32)))] [] (hp (f_Op_setSlot (pI s 8 5 a0) (1 : Int32) (f_Op_slotAt (pI s 8 5 a0) (2 : Int32)))) _
    refine X_run 1 (i1 := 280) (L1 := [some (.inr (.inr (some 8))), some (.inl a0), some (.inl (f_Op_operand (pI s 8 5 a0) (0 : Int32)))]) (st1 := []) rfl ?_
    exact X_ret rfl rfl qVs_i
  have hw := hw.2 h8_9
  refine X_itq (fun h => ?_) (fun h8_10 => ?_)
  · refine X_tsk rfl h rfl ?_
    have hw := hw.1 h
    refine X_run 3 (i1 := 115) (L1 := [some (.inr (.inr (some 8))), some (.inl a0), some (.inl (f_Op_operand (pI s 8 5 a0) (0 : Int32)))]) (st1 := [.inr (.inr none), .inl (1 : Int32), .inr (.inr (some 8))]) rfl ?_
    obtain ⟨hc, hw⟩ := hw
    refine X_callv m_Op_setSlot (As := [.inl (1 : Int32), .inr (.inr none)]) (st := []) ok_Op_setSlot rfl rfl rfl (hp_obj rfl) rfl (Nat.le_of_ble_eq_true rfl) (Nat.le_of_ble_eq_true rfl) (c_Op_setSlot (d := d + 35) (pI s 8 5 a0) (1 : Int32) none hc) ?_
    rintro _ _ ⟨rfl, rfl⟩
    show X _ _ 116 [some (.inr (.inr (some 8))), some (.inl a0), some (.inl (f_Op_operand (pI s 8 5 a0) (0 : Int32)))] [] (hp (f_Op_setSlot (pI s 8 5 a0) (1 : Int32) none)) _
    refine X_run 1 (i1 := 280) (L1 := [some (.inr (.inr (some 8))), some (.inl a0), some (.inl (f_Op_operand (pI s 8 5 a0) (0 : Int32)))]) (st1 := []) rfl ?_
    exact X_ret rfl rfl qVs_i
  have hw := hw.2 h8_10
  refine X_itq (fun h => ?_) (fun h8_11 => ?_)
  · refine X_tsk rfl h rfl ?_
    have hw := hw.1 h
    refine X_run 3 (i1 := 120) (L1 := [some (.inr (.inr (some 8))), some (.inl a0), some (.inl (f_Op_operand (pI s 8 5 a0) (0 : Int32)))]) (st1 := [.inl (3 : Int32), .inr (.inr (some 8)), .inr (.inr (some 8))]) rfl ?_
    obtain ⟨hc, hw⟩ := hw
    refine X_callv m_Op_numberAt (As := [.inl (3 : Int32)]) (st := [.inr (.inr (some 8))]) ok_Op_numberAt rfl rfl rfl (hp_obj rfl) rfl (Nat.le_of_ble_eq_true rfl) (Nat.le_of_ble_eq_true rfl) (c_Op_numberAt (d := d + 35) (pI s 8 5 a0) (3 : Int32) hc) ?_
    rintro _ _ ⟨rfl, rfl⟩
    show X _ _ 121 [some (.inr (.inr (some 8))), some (.inl a0), some (.inl (f_Op_operand (pI s 8 5 a0) (0 : Int32)))] [.inl (f_Op_numberAt (pI s 8 5 a0) (3 : Int32)), .inr (.inr (some 8))] (hp (pI s 8 5 a0)) _
    obtain ⟨hc, hw⟩ := hw
    refine X_callv m_Op_makeRow (As := [.inl (f_Op_numberAt (pI s 8 5 a0) (3 : Int32))]) (st := []) ok_Op_makeRow rfl rfl rfl (hp_obj rfl) rfl (Nat.le_of_ble_eq_true rfl) (Nat.le_of_ble_eq_true rfl) (c_Op_makeRow (d := d + 33) (pI s 8 5 a0) (f_Op_numberAt (pI s 8 5 a0) (3 : Int32)) hc) ?_
    rintro _ _ ⟨rfl, rfl⟩
    show X _ _ 122 [some (.inr (.inr (some 8))), some (.inl a0), some (.inl (f_Op_operand (pI s 8 5 a0) (0 : Int32)))] [] (hp (f_Op_makeRow (pI s 8 5 a0) (f_Op_numberAt (pI s 8 5 a0) (3 : Int32)))) _
    refine X_run 1 (i1 := 280) (L1 := [some (.inr (.inr (some 8))), some (.inl a0), some (.inl (f_Op_operand (pI s 8 5 a0) (0 : Int32)))]) (st1 := []) rfl ?_
    exact X_ret rfl rfl qVs_i
  have hw := hw.2 h8_11
  refine X_itq (fun h => ?_) (fun h8_12 => ?_)
  · refine X_tsk rfl h rfl ?_
    have hw := hw.1 h
    refine X_run 3 (i1 := 126) (L1 := [some (.inr (.inr (some 8))), some (.inl a0), some (.inl (f_Op_operand (pI s 8 5 a0) (0 : Int32)))]) (st1 := [.inl (2 : Int32), .inr (.inr (some 8)), .inr (.inr (some 8))]) rfl ?_
    obtain ⟨hc, hw⟩ := hw
    refine X_callv m_Op_numberAt (As := [.inl (2 : Int32)]) (st := [.inr (.inr (some 8))]) ok_Op_numberAt rfl rfl rfl (hp_obj rfl) rfl (Nat.le_of_ble_eq_true rfl) (Nat.le_of_ble_eq_true rfl) (c_Op_numberAt (d := d + 35) (pI s 8 5 a0) (2 : Int32) hc) ?_
    rintro _ _ ⟨rfl, rfl⟩
    show X _ _ 127 [some (.inr (.inr (some 8))), some (.inl a0), some (.inl (f_Op_operand (pI s 8 5 a0) (0 : Int32)))] [.inl (f_Op_numberAt (pI s 8 5 a0) (2 : Int32)), .inr (.inr (some 8))] (hp (pI s 8 5 a0)) _
    refine X_run 2 (i1 := 129) (L1 := [some (.inr (.inr (some 8))), some (.inl a0), some (.inl (f_Op_operand (pI s 8 5 a0) (0 : Int32)))]) (st1 := [.inl (3 : Int32), .inr (.inr (some 8)), .inl (f_Op_numberAt (pI s 8 5 a0) (2 : Int32)), .inr (.inr (some 8))]) rfl ?_
    obtain ⟨hc, hw⟩ := hw
    refine X_callv m_Op_numberAt (As := [.inl (3 : Int32)]) (st := [.inl (f_Op_numberAt (pI s 8 5 a0) (2 : Int32)), .inr (.inr (some 8))]) ok_Op_numberAt rfl rfl rfl (hp_obj rfl) rfl (Nat.le_of_ble_eq_true rfl) (Nat.le_of_ble_eq_true rfl) (c_Op_numberAt (d := d + 35) (pI s 8 5 a0) (3 : Int32) hc) ?_
    rintro _ _ ⟨rfl, rfl⟩
    show X _ _ 130 [some (.inr (.inr (some 8))), some (.inl a0), some (.inl (f_Op_operand (pI s 8 5 a0) (0 : Int32)))] [.inl (f_Op_numberAt (pI s 8 5 a0) (3 : Int32)), .inl (f_Op_numberAt (pI s 8 5 a0) (2 : Int32)), .inr (.inr (some 8))] (hp (pI s 8 5 a0)) _
    obtain ⟨hc, hw⟩ := hw
    refine X_callv m_Op_makeGrid (As := [.inl (f_Op_numberAt (pI s 8 5 a0) (2 : Int32)), .inl (f_Op_numberAt (pI s 8 5 a0) (3 : Int32))]) (st := []) ok_Op_makeGrid rfl rfl rfl (hp_obj rfl) rfl (Nat.le_of_ble_eq_true rfl) (Nat.le_of_ble_eq_true rfl) (c_Op_makeGrid (d := d + 33) fu (pI s 8 5 a0) (f_Op_numberAt (pI s 8 5 a0) (2 : Int32)) (f_Op_numberAt (pI s 8 5 a0) (3 : Int32)) hc) ?_
    rintro _ _ ⟨rfl, rfl⟩
    show X _ _ 131 [some (.inr (.inr (some 8))), some (.inl a0), some (.inl (f_Op_operand (pI s 8 5 a0) (0 : Int32)))] [] (hp (f_Op_makeGrid fu (pI s 8 5 a0) (f_Op_numberAt (pI s 8 5 a0) (2 : Int32)) (f_Op_numberAt (pI s 8 5 a0) (3 : Int32)))) _
    refine X_run 1 (i1 := 280) (L1 := [some (.inr (.inr (some 8))), some (.inl a0), some (.inl (f_Op_operand (pI s 8 5 a0) (0 : Int32)))]) (st1 := []) rfl ?_
    exact X_ret rfl rfl qVs_i
  have hw := hw.2 h8_12
  refine X_itq (fun h => ?_) (fun h8_13 => ?_)
  · refine X_tsk rfl h rfl ?_
    have hw := hw.1 h
    refine X_run 3 (i1 := 135) (L1 := [some (.inr (.inr (some 8))), some (.inl a0), some (.inl (f_Op_operand (pI s 8 5 a0) (0 : Int32)))]) (st1 := [.inl (3 : Int32), .inr (.inr (some 8)), .inr (.inr (some 8))]) rfl ?_
    obtain ⟨hc, hw⟩ := hw
    refine X_callv m_Op_numberAt (As := [.inl (3 : Int32)]) (st := [.inr (.inr (some 8))]) ok_Op_numberAt rfl rfl rfl (hp_obj rfl) rfl (Nat.le_of_ble_eq_true rfl) (Nat.le_of_ble_eq_true rfl) (c_Op_numberAt (d := d + 35) (pI s 8 5 a0) (3 : Int32) hc) ?_
    rintro _ _ ⟨rfl, rfl⟩
    show X _ _ 136 [some (.inr (.inr (some 8))), some (.inl a0), some (.inl (f_Op_operand (pI s 8 5 a0) (0 : Int32)))] [.inl (f_Op_numberAt (pI s 8 5 a0) (3 : Int32)), .inr (.inr (some 8))] (hp (pI s 8 5 a0)) _
    obtain ⟨hc, hw⟩ := hw
    refine X_callv m_Op_makeBox (As := [.inl (f_Op_numberAt (pI s 8 5 a0) (3 : Int32))]) (st := []) ok_Op_makeBox rfl rfl rfl (hp_obj rfl) rfl (Nat.le_of_ble_eq_true rfl) (Nat.le_of_ble_eq_true rfl) (c_Op_makeBox (d := d + 33) (pI s 8 5 a0) (f_Op_numberAt (pI s 8 5 a0) (3 : Int32)) hc) ?_
    rintro _ _ ⟨rfl, rfl⟩
    show X _ _ 137 [some (.inr (.inr (some 8))), some (.inl a0), some (.inl (f_Op_operand (pI s 8 5 a0) (0 : Int32)))] [] (hp (f_Op_makeBox (pI s 8 5 a0) (f_Op_numberAt (pI s 8 5 a0) (3 : Int32)))) _
    refine X_run 1 (i1 := 280) (L1 := [some (.inr (.inr (some 8))), some (.inl a0), some (.inl (f_Op_operand (pI s 8 5 a0) (0 : Int32)))]) (st1 := []) rfl ?_
    exact X_ret rfl rfl qVs_i
  have hw := hw.2 h8_13
  refine X_itq (fun h => ?_) (fun h8_14 => ?_)
  · refine X_tsk rfl h rfl ?_
    have hw := hw.1 h
    refine X_run 1 (i1 := 139) (L1 := [some (.inr (.inr (some 8))), some (.inl a0), some (.inl (f_Op_operand (pI s 8 5 a0) (0 : Int32)))]) (st1 := [.inr (.inr (some 8))]) rfl ?_
    obtain ⟨hc, hw⟩ := hw
    refine X_callv m_Op_makePart (As := []) (st := []) ok_Op_makePart rfl rfl rfl (hp_obj rfl) rfl (Nat.le_of_ble_eq_true rfl) (Nat.le_of_ble_eq_true rfl) (c_Op_makePart (d := d + 33) (pI s 8 5 a0) hc) ?_
    rintro _ _ ⟨rfl, rfl⟩
    show X _ _ 140 [some (.inr (.inr (some 8))), some (.inl a0), some (.inl (f_Op_operand (pI s 8 5 a0) (0 : Int32)))] [] (hp (f_Op_makePart (pI s 8 5 a0))) _
    refine X_run 1 (i1 := 280) (L1 := [some (.inr (.inr (some 8))), some (.inl a0), some (.inl (f_Op_operand (pI s 8 5 a0) (0 : Int32)))]) (st1 := []) rfl ?_
    exact X_ret rfl rfl qVs_i
  have hw := hw.2 h8_14
  refine X_itq (fun h => ?_) (fun h8_15 => ?_)
  · refine X_tsk rfl h rfl ?_
    have hw := hw.1 h
    refine X_run 1 (i1 := 142) (L1 := [some (.inr (.inr (some 8))), some (.inl a0), some (.inl (f_Op_operand (pI s 8 5 a0) (0 : Int32)))]) (st1 := [.inr (.inr (some 8))]) rfl ?_
    obtain ⟨hc, hw⟩ := hw
    refine X_callv m_Op_makeTrouble (As := []) (st := []) ok_Op_makeTrouble rfl rfl rfl (hp_obj rfl) rfl (Nat.le_of_ble_eq_true rfl) (Nat.le_of_ble_eq_true rfl) (c_Op_makeTrouble (d := d + 33) (pI s 8 5 a0) hc) ?_
    rintro _ _ ⟨rfl, rfl⟩
    show X _ _ 143 [some (.inr (.inr (some 8))), some (.inl a0), some (.inl (f_Op_operand (pI s 8 5 a0) (0 : Int32)))] [] (hp (f_Op_makeTrouble (pI s 8 5 a0))) _
    refine X_run 1 (i1 := 280) (L1 := [some (.inr (.inr (some 8))), some (.inl a0), some (.inl (f_Op_operand (pI s 8 5 a0) (0 : Int32)))]) (st1 := []) rfl ?_
    exact X_ret rfl rfl qVs_i
  have hw := hw.2 h8_15
  refine X_itq (fun h => ?_) (fun h8_16 => ?_)
  · refine X_tsk rfl h rfl ?_
    have hw := hw.1 h
    refine X_run 3 (i1 := 147) (L1 := [some (.inr (.inr (some 8))), some (.inl a0), some (.inl (f_Op_operand (pI s 8 5 a0) (0 : Int32)))]) (st1 := [.inl (2 : Int32), .inr (.inr (some 8)), .inr (.inr (some 8))]) rfl ?_
    obtain ⟨hc, hw⟩ := hw
    refine X_callv m_Op_slotAt (As := [.inl (2 : Int32)]) (st := [.inr (.inr (some 8))]) ok_Op_slotAt rfl rfl rfl (hp_obj rfl) rfl (Nat.le_of_ble_eq_true rfl) (Nat.le_of_ble_eq_true rfl) (c_Op_slotAt (d := d + 35) (pI s 8 5 a0) (2 : Int32) hc) ?_
    rintro _ _ ⟨rfl, rfl⟩
    show X _ _ 148 [some (.inr (.inr (some 8))), some (.inl a0), some (.inl (f_Op_operand (pI s 8 5 a0) (0 : Int32)))] [.inr (.inr (f_Op_slotAt (pI s 8 5 a0) (2 : Int32))), .inr (.inr (some 8))] (hp (pI s 8 5 a0)) _
    obtain ⟨hc, hw⟩ := hw
    refine X_callv m_Op_countMembers (As := [.inr (.inr (f_Op_slotAt (pI s 8 5 a0) (2 : Int32)))]) (st := []) ok_Op_countMembers rfl rfl rfl (hp_obj rfl) rfl (Nat.le_of_ble_eq_true rfl) (Nat.le_of_ble_eq_true rfl) (c_Op_countMembers (d := d + 33) (pI s 8 5 a0) (f_Op_slotAt (pI s 8 5 a0) (2 : Int32)) hc) ?_
    rintro _ _ ⟨rfl, rfl⟩
    show X _ _ 149 [some (.inr (.inr (some 8))), some (.inl a0), some (.inl (f_Op_operand (pI s 8 5 a0) (0 : Int32)))] [] (hp (f_Op_countMembers (pI s 8 5 a0) (f_Op_slotAt (pI s 8 5 a0) (2 : Int32)))) _
    refine X_run 1 (i1 := 280) (L1 := [some (.inr (.inr (some 8))), some (.inl a0), some (.inl (f_Op_operand (pI s 8 5 a0) (0 : Int32)))]) (st1 := []) rfl ?_
    exact X_ret rfl rfl qVs_i
  have hw := hw.2 h8_16
  refine X_itq (fun h => ?_) (fun h8_17 => ?_)
  · refine X_tsk rfl h rfl ?_
    have hw := hw.1 h
    refine X_run 4 (i1 := 154) (L1 := [some (.inr (.inr (some 8))), some (.inl a0), some (.inl (f_Op_operand (pI s 8 5 a0) (0 : Int32)))]) (st1 := [.inl (2 : Int32), .inr (.inr (some 8)), .inl (1 : Int32), .inr (.inr (some 8))]) rfl ?_
    obtain ⟨hc, hw⟩ := hw
    refine X_callv m_Op_slotAt (As := [.inl (2 : Int32)]) (st := [.inl (1 : Int32), .inr (.inr (some 8))]) ok_Op_slotAt rfl rfl rfl (hp_obj rfl) rfl (Nat.le_of_ble_eq_true rfl) (Nat.le_of_ble_eq_true rfl) (c_Op_slotAt (d := d + 35) (pI s 8 5 a0) (2 : Int32) hc) ?_
    rintro _ _ ⟨rfl, rfl⟩
    show X _ _ 155 [some (.inr (.inr (some 8))), some (.inl a0), some (.inl (f_Op_operand (pI s 8 5 a0) (0 : Int32)))] [.inr (.inr (f_Op_slotAt (pI s 8 5 a0) (2 : Int32))), .inl (1 : Int32), .inr (.inr (some 8))] (hp (pI s 8 5 a0)) _
    refine X_run 2 (i1 := 157) (L1 := [some (.inr (.inr (some 8))), some (.inl a0), some (.inl (f_Op_operand (pI s 8 5 a0) (0 : Int32)))]) (st1 := [.inl (3 : Int32), .inr (.inr (some 8)), .inr (.inr (f_Op_slotAt (pI s 8 5 a0) (2 : Int32))), .inl (1 : Int32), .inr (.inr (some 8))]) rfl ?_
    obtain ⟨hc, hw⟩ := hw
    refine X_callv m_Op_operand (As := [.inl (3 : Int32)]) (st := [.inr (.inr (f_Op_slotAt (pI s 8 5 a0) (2 : Int32))), .inl (1 : Int32), .inr (.inr (some 8))]) ok_Op_operand rfl rfl rfl (hp_obj rfl) rfl (Nat.le_of_ble_eq_true rfl) (Nat.le_of_ble_eq_true rfl) (c_Op_operand (d := d + 36) (pI s 8 5 a0) (3 : Int32) hc) ?_
    rintro _ _ ⟨rfl, rfl⟩
    show X _ _ 158 [some (.inr (.inr (some 8))), some (.inl a0), some (.inl (f_Op_operand (pI s 8 5 a0) (0 : Int32)))] [.inl (f_Op_operand (pI s 8 5 a0) (3 : Int32)), .inr (.inr (f_Op_slotAt (pI s 8 5 a0) (2 : Int32))), .inl (1 : Int32), .inr (.inr (some 8))] (hp (pI s 8 5 a0)) _
    obtain ⟨hc, hw⟩ := hw
    refine X_calls m_Op_fits (As := [.inr (.inr (f_Op_slotAt (pI s 8 5 a0) (2 : Int32))), .inl (f_Op_operand (pI s 8 5 a0) (3 : Int32))]) (st := [.inl (1 : Int32), .inr (.inr (some 8))]) ok_Op_fits rfl rfl rfl (Nat.le_of_ble_eq_true rfl) (Nat.le_of_ble_eq_true rfl) (c_Op_fits (d := d + 34) (pI s 8 5 a0) (f_Op_slotAt (pI s 8 5 a0) (2 : Int32)) (f_Op_operand (pI s 8 5 a0) (3 : Int32)) hc) ?_
    rintro _ _ ⟨rfl, rfl⟩
    show X _ _ 159 [some (.inr (.inr (some 8))), some (.inl a0), some (.inl (f_Op_operand (pI s 8 5 a0) (0 : Int32)))] [.inl (b2i (f_Op_fits (pI s 8 5 a0) (f_Op_slotAt (pI s 8 5 a0) (2 : Int32)) (f_Op_operand (pI s 8 5 a0) (3 : Int32)))), .inl (1 : Int32), .inr (.inr (some 8))] (hp (pI s 8 5 a0)) _
    refine X_run 1 (i1 := cond (cn1 .eq (b2i (f_Op_fits (pI s 8 5 a0) (f_Op_slotAt (pI s 8 5 a0) (2 : Int32)) (f_Op_operand (pI s 8 5 a0) (3 : Int32))))) 162 160) (L1 := [some (.inr (.inr (some 8))), some (.inl a0), some (.inl (f_Op_operand (pI s 8 5 a0) (0 : Int32)))]) (st1 := [.inl (1 : Int32), .inr (.inr (some 8))]) rfl ?_
    refine X_brq (fun hb => ?_) (fun hb => ?_)
    · have hw := hw.1 hb
      refine X_run 1 (i1 := 163) (L1 := [some (.inr (.inr (some 8))), some (.inl a0), some (.inl (f_Op_operand (pI s 8 5 a0) (0 : Int32)))]) (st1 := [.inl (0 : Int32), .inl (1 : Int32), .inr (.inr (some 8))]) rfl ?_
      refine X_mask [false, false, false] ?_
      exact ct_Op_perform_163 fu (pI s 8 5 a0) (0 : Int32) (1 : Int32) hw
    · have hw := hw.2 hb
      refine X_run 2 (i1 := 163) (L1 := [some (.inr (.inr (some 8))), some (.inl a0), some (.inl (f_Op_operand (pI s 8 5 a0) (0 : Int32)))]) (st1 := [.inl (1 : Int32), .inl (1 : Int32), .inr (.inr (some 8))]) rfl ?_
      refine X_mask [false, false, false] ?_
      exact ct_Op_perform_163 fu (pI s 8 5 a0) (1 : Int32) (1 : Int32) hw
  have hw := hw.2 h8_17
  refine X_itq (fun h => ?_) (fun h8_18 => ?_)
  · refine X_tsk rfl h rfl ?_
    have hw := hw.1 h
    refine X_run 3 (i1 := 168) (L1 := [some (.inr (.inr (some 8))), some (.inl a0), some (.inl (f_Op_operand (pI s 8 5 a0) (0 : Int32)))]) (st1 := [.inl (3 : Int32), .inr (.inr (some 8)), .inr (.inr (some 8))]) rfl ?_
    obtain ⟨hc, hw⟩ := hw
    refine X_callv m_Op_slotAt (As := [.inl (3 : Int32)]) (st := [.inr (.inr (some 8))]) ok_Op_slotAt rfl rfl rfl (hp_obj rfl) rfl (Nat.le_of_ble_eq_true rfl) (Nat.le_of_ble_eq_true rfl) (c_Op_slotAt (d := d + 35) (pI s 8 5 a0) (3 : Int32) hc) ?_
    rintro _ _ ⟨rfl, rfl⟩
    show X _ _ 169 [some (.inr (.inr (some 8))), some (.inl a0), some (.inl (f_Op_operand (pI s 8 5 a0) (0 : Int32)))] [.inr (.inr (f_Op_slotAt (pI s 8 5 a0) (3 : Int32))), .inr (.inr (some 8))] (hp (pI s 8 5 a0)) _
    refine X_run 2 (i1 := 171) (L1 := [some (.inr (.inr (some 8))), some (.inl a0), some (.inl (f_Op_operand (pI s 8 5 a0) (0 : Int32)))]) (st1 := [.inl (4 : Int32), .inr (.inr (some 8)), .inr (.inr (f_Op_slotAt (pI s 8 5 a0) (3 : Int32))), .inr (.inr (some 8))]) rfl ?_
    obtain ⟨hc, hw⟩ := hw
    refine X_callv m_Op_numberAt (As := [.inl (4 : Int32)]) (st := [.inr (.inr (f_Op_slotAt (pI s 8 5 a0) (3 : Int32))), .inr (.inr (some 8))]) ok_Op_numberAt rfl rfl rfl (hp_obj rfl) rfl (Nat.le_of_ble_eq_true rfl) (Nat.le_of_ble_eq_true rfl) (c_Op_numberAt (d := d + 35) (pI s 8 5 a0) (4 : Int32) hc) ?_
    rintro _ _ ⟨rfl, rfl⟩
    show X _ _ 172 [some (.inr (.inr (some 8))), some (.inl a0), some (.inl (f_Op_operand (pI s 8 5 a0) (0 : Int32)))] [.inl (f_Op_numberAt (pI s 8 5 a0) (4 : Int32)), .inr (.inr (f_Op_slotAt (pI s 8 5 a0) (3 : Int32))), .inr (.inr (some 8))] (hp (pI s 8 5 a0)) _
    obtain ⟨hc, hw⟩ := hw
    refine X_callv m_Op_takeMember (As := [.inr (.inr (f_Op_slotAt (pI s 8 5 a0) (3 : Int32))), .inl (f_Op_numberAt (pI s 8 5 a0) (4 : Int32))]) (st := []) ok_Op_takeMember rfl rfl rfl (hp_obj rfl) rfl (Nat.le_of_ble_eq_true rfl) (Nat.le_of_ble_eq_true rfl) (c_Op_takeMember (d := d + 33) (pI s 8 5 a0) (f_Op_slotAt (pI s 8 5 a0) (3 : Int32)) (f_Op_numberAt (pI s 8 5 a0) (4 : Int32)) hc) ?_
    rintro _ _ ⟨rfl, rfl⟩
    show X _ _ 173 [some (.inr (.inr (some 8))), some (.inl a0), some (.inl (f_Op_operand (pI s 8 5 a0) (0 : Int32)))] [] (hp (f_Op_takeMember (pI s 8 5 a0) (f_Op_slotAt (pI s 8 5 a0) (3 : Int32)) (f_Op_numberAt (pI s 8 5 a0) (4 : Int32)))) _
    refine X_run 1 (i1 := 280) (L1 := [some (.inr (.inr (some 8))), some (.inl a0), some (.inl (f_Op_operand (pI s 8 5 a0) (0 : Int32)))]) (st1 := []) rfl ?_
    exact X_ret rfl rfl qVs_i
  have hw := hw.2 h8_18
  refine X_itq (fun h => ?_) (fun h8_19 => ?_)
  · refine X_tsk rfl h rfl ?_
    have hw := hw.1 h
    refine X_run 3 (i1 := 177) (L1 := [some (.inr (.inr (some 8))), some (.inl a0), some (.inl (f_Op_operand (pI s 8 5 a0) (0 : Int32)))]) (st1 := [.inl (2 : Int32), .inr (.inr (some 8)), .inr (.inr (some 8))]) rfl ?_
    obtain ⟨hc, hw⟩ := hw
    refine X_callv m_Op_slotAt (As := [.inl (2 : Int32)]) (st := [.inr (.inr (some 8))]) ok_Op_slotAt rfl rfl rfl (hp_obj rfl) rfl (Nat.le_of_ble_eq_true rfl) (Nat.le_of_ble_eq_true rfl) (c_Op_slotAt (d := d + 35) (pI s 8 5 a0) (2 : Int32) hc) ?_
    rintro _ _ ⟨rfl, rfl⟩
    show X _ _ 178 [some (.inr (.inr (some 8))), some (.inl a0), some (.inl (f_Op_operand (pI s 8 5 a0) (0 : Int32)))] [.inr (.inr (f_Op_slotAt (pI s 8 5 a0) (2 : Int32))), .inr (.inr (some 8))] (hp (pI s 8 5 a0)) _
    refine X_run 2 (i1 := 180) (L1 := [some (.inr (.inr (some 8))), some (.inl a0), some (.inl (f_Op_operand (pI s 8 5 a0) (0 : Int32)))]) (st1 := [.inl (3 : Int32), .inr (.inr (some 8)), .inr (.inr (f_Op_slotAt (pI s 8 5 a0) (2 : Int32))), .inr (.inr (some 8))]) rfl ?_
    obtain ⟨hc, hw⟩ := hw
    refine X_callv m_Op_numberAt (As := [.inl (3 : Int32)]) (st := [.inr (.inr (f_Op_slotAt (pI s 8 5 a0) (2 : Int32))), .inr (.inr (some 8))]) ok_Op_numberAt rfl rfl rfl (hp_obj rfl) rfl (Nat.le_of_ble_eq_true rfl) (Nat.le_of_ble_eq_true rfl) (c_Op_numberAt (d := d + 35) (pI s 8 5 a0) (3 : Int32) hc) ?_
    rintro _ _ ⟨rfl, rfl⟩
    show X _ _ 181 [some (.inr (.inr (some 8))), some (.inl a0), some (.inl (f_Op_operand (pI s 8 5 a0) (0 : Int32)))] [.inl (f_Op_numberAt (pI s 8 5 a0) (3 : Int32)), .inr (.inr (f_Op_slotAt (pI s 8 5 a0) (2 : Int32))), .inr (.inr (some 8))] (hp (pI s 8 5 a0)) _
    obtain ⟨hc, hw⟩ := hw
    refine X_callv m_Op_putMember (As := [.inr (.inr (f_Op_slotAt (pI s 8 5 a0) (2 : Int32))), .inl (f_Op_numberAt (pI s 8 5 a0) (3 : Int32))]) (st := []) ok_Op_putMember rfl rfl rfl (hp_obj rfl) rfl (Nat.le_of_ble_eq_true rfl) (Nat.le_of_ble_eq_true rfl) (c_Op_putMember (d := d + 32) (pI s 8 5 a0) (f_Op_slotAt (pI s 8 5 a0) (2 : Int32)) (f_Op_numberAt (pI s 8 5 a0) (3 : Int32)) hc) ?_
    rintro _ _ ⟨rfl, rfl⟩
    show X _ _ 182 [some (.inr (.inr (some 8))), some (.inl a0), some (.inl (f_Op_operand (pI s 8 5 a0) (0 : Int32)))] [] (hp (f_Op_putMember (pI s 8 5 a0) (f_Op_slotAt (pI s 8 5 a0) (2 : Int32)) (f_Op_numberAt (pI s 8 5 a0) (3 : Int32)))) _
    refine X_run 1 (i1 := 280) (L1 := [some (.inr (.inr (some 8))), some (.inl a0), some (.inl (f_Op_operand (pI s 8 5 a0) (0 : Int32)))]) (st1 := []) rfl ?_
    exact X_ret rfl rfl qVs_i
  have hw := hw.2 h8_19
  refine X_itq (fun h => ?_) (fun h8_20 => ?_)
  · refine X_tsk rfl h rfl ?_
    have hw := hw.1 h
    refine X_run 3 (i1 := 186) (L1 := [some (.inr (.inr (some 8))), some (.inl a0), some (.inl (f_Op_operand (pI s 8 5 a0) (0 : Int32)))]) (st1 := [.inl (1 : Int32), .inr (.inr (some 8)), .inr (.inr (some 8))]) rfl ?_
    obtain ⟨hc, hw⟩ := hw
    refine X_callv m_Op_slotAt (As := [.inl (1 : Int32)]) (st := [.inr (.inr (some 8))]) ok_Op_slotAt rfl rfl rfl (hp_obj rfl) rfl (Nat.le_of_ble_eq_true rfl) (Nat.le_of_ble_eq_true rfl) (c_Op_slotAt (d := d + 35) (pI s 8 5 a0) (1 : Int32) hc) ?_
    rintro _ _ ⟨rfl, rfl⟩
    show X _ _ 187 [some (.inr (.inr (some 8))), some (.inl a0), some (.inl (f_Op_operand (pI s 8 5 a0) (0 : Int32)))] [.inr (.inr (f_Op_slotAt (pI s 8 5 a0) (1 : Int32))), .inr (.inr (some 8))] (hp (pI s 8 5 a0)) _
    refine X_run 2 (i1 := 189) (L1 := [some (.inr (.inr (some 8))), some (.inl a0), some (.inl (f_Op_operand (pI s 8 5 a0) (0 : Int32)))]) (st1 := [.inl (3 : Int32), .inr (.inr (some 8)), .inr (.inr (f_Op_slotAt (pI s 8 5 a0) (1 : Int32))), .inr (.inr (some 8))]) rfl ?_
    obtain ⟨hc, hw⟩ := hw
    refine X_callv m_Op_slotAt (As := [.inl (3 : Int32)]) (st := [.inr (.inr (f_Op_slotAt (pI s 8 5 a0) (1 : Int32))), .inr (.inr (some 8))]) ok_Op_slotAt rfl rfl rfl (hp_obj rfl) rfl (Nat.le_of_ble_eq_true rfl) (Nat.le_of_ble_eq_true rfl) (c_Op_slotAt (d := d + 35) (pI s 8 5 a0) (3 : Int32) hc) ?_
    rintro _ _ ⟨rfl, rfl⟩
    show X _ _ 190 [some (.inr (.inr (some 8))), some (.inl a0), some (.inl (f_Op_operand (pI s 8 5 a0) (0 : Int32)))] [.inr (.inr (f_Op_slotAt (pI s 8 5 a0) (3 : Int32))), .inr (.inr (f_Op_slotAt (pI s 8 5 a0) (1 : Int32))), .inr (.inr (some 8))] (hp (pI s 8 5 a0)) _
    obtain ⟨hc, hw⟩ := hw
    refine X_callv m_Op_copyMembers (As := [.inr (.inr (f_Op_slotAt (pI s 8 5 a0) (1 : Int32))), .inr (.inr (f_Op_slotAt (pI s 8 5 a0) (3 : Int32)))]) (st := []) ok_Op_copyMembers rfl rfl rfl (hp_obj rfl) rfl (Nat.le_of_ble_eq_true rfl) (Nat.le_of_ble_eq_true rfl) (c_Op_copyMembers (d := d + 33) fu (pI s 8 5 a0) (f_Op_slotAt (pI s 8 5 a0) (1 : Int32)) (f_Op_slotAt (pI s 8 5 a0) (3 : Int32)) hc) ?_
    rintro _ _ ⟨rfl, rfl⟩
    show X _ _ 191 [some (.inr (.inr (some 8))), some (.inl a0), some (.inl (f_Op_operand (pI s 8 5 a0) (0 : Int32)))] [] (hp (f_Op_copyMembers fu (pI s 8 5 a0) (f_Op_slotAt (pI s 8 5 a0) (1 : Int32)) (f_Op_slotAt (pI s 8 5 a0) (3 : Int32)))) _
    refine X_run 1 (i1 := 280) (L1 := [some (.inr (.inr (some 8))), some (.inl a0), some (.inl (f_Op_operand (pI s 8 5 a0) (0 : Int32)))]) (st1 := []) rfl ?_
    exact X_ret rfl rfl qVs_i
  have hw := hw.2 h8_20
  refine X_itq (fun h => ?_) (fun h8_21 => ?_)
  · refine X_tsk rfl h rfl ?_
    have hw := hw.1 h
    refine X_run 3 (i1 := 195) (L1 := [some (.inr (.inr (some 8))), some (.inl a0), some (.inl (f_Op_operand (pI s 8 5 a0) (0 : Int32)))]) (st1 := [.inl (2 : Int32), .inr (.inr (some 8)), .inr (.inr (some 8))]) rfl ?_
    obtain ⟨hc, hw⟩ := hw
    refine X_callv m_Op_slotAt (As := [.inl (2 : Int32)]) (st := [.inr (.inr (some 8))]) ok_Op_slotAt rfl rfl rfl (hp_obj rfl) rfl (Nat.le_of_ble_eq_true rfl) (Nat.le_of_ble_eq_true rfl) (c_Op_slotAt (d := d + 35) (pI s 8 5 a0) (2 : Int32) hc) ?_
    rintro _ _ ⟨rfl, rfl⟩
    show X _ _ 196 [some (.inr (.inr (some 8))), some (.inl a0), some (.inl (f_Op_operand (pI s 8 5 a0) (0 : Int32)))] [.inr (.inr (f_Op_slotAt (pI s 8 5 a0) (2 : Int32))), .inr (.inr (some 8))] (hp (pI s 8 5 a0)) _
    obtain ⟨hc, hw⟩ := hw
    refine X_callv m_Op_makeTwin (As := [.inr (.inr (f_Op_slotAt (pI s 8 5 a0) (2 : Int32)))]) (st := []) ok_Op_makeTwin rfl rfl rfl (hp_obj rfl) rfl (Nat.le_of_ble_eq_true rfl) (Nat.le_of_ble_eq_true rfl) (c_Op_makeTwin (d := d + 32) fu (pI s 8 5 a0) (f_Op_slotAt (pI s 8 5 a0) (2 : Int32)) hc) ?_
    rintro _ _ ⟨rfl, rfl⟩
    show X _ _ 197 [some (.inr (.inr (some 8))), some (.inl a0), some (.inl (f_Op_operand (pI s 8 5 a0) (0 : Int32)))] [] (hp (f_Op_makeTwin fu (pI s 8 5 a0) (f_Op_slotAt (pI s 8 5 a0) (2 : Int32)))) _
    refine X_run 1 (i1 := 280) (L1 := [some (.inr (.inr (some 8))), some (.inl a0), some (.inl (f_Op_operand (pI s 8 5 a0) (0 : Int32)))]) (st1 := []) rfl ?_
    exact X_ret rfl rfl qVs_i
  have hw := hw.2 h8_21
  refine X_itq (fun h => ?_) (fun h8_22 => ?_)
  · refine X_tsk rfl h rfl ?_
    have hw := hw.1 h
    refine X_run 4 (i1 := 202) (L1 := [some (.inr (.inr (some 8))), some (.inl a0), some (.inl (f_Op_operand (pI s 8 5 a0) (0 : Int32)))]) (st1 := [.inl (2 : Int32), .inr (.inr (some 8)), .inl (9 : Int32), .inr (.inr (some 8))]) rfl ?_
    obtain ⟨hc, hw⟩ := hw
    refine X_callv m_Op_slotAt (As := [.inl (2 : Int32)]) (st := [.inl (9 : Int32), .inr (.inr (some 8))]) ok_Op_slotAt rfl rfl rfl (hp_obj rfl) rfl (Nat.le_of_ble_eq_true rfl) (Nat.le_of_ble_eq_true rfl) (c_Op_slotAt (d := d + 35) (pI s 8 5 a0) (2 : Int32) hc) ?_
    rintro _ _ ⟨rfl, rfl⟩
    show X _ _ 203 [some (.inr (.inr (some 8))), some (.inl a0), some (.inl (f_Op_operand (pI s 8 5 a0) (0 : Int32)))] [.inr (.inr (f_Op_slotAt (pI s 8 5 a0) (2 : Int32))), .inl (9 : Int32), .inr (.inr (some 8))] (hp (pI s 8 5 a0)) _
    refine X_run 2 (i1 := 205) (L1 := [some (.inr (.inr (some 8))), some (.inl a0), some (.inl (f_Op_operand (pI s 8 5 a0) (0 : Int32)))]) (st1 := [.inl (3 : Int32), .inr (.inr (some 8)), .inr (.inr (f_Op_slotAt (pI s 8 5 a0) (2 : Int32))), .inl (9 : Int32), .inr (.inr (some 8))]) rfl ?_
    obtain ⟨hc, hw⟩ := hw
    refine X_callv m_Op_numberAt (As := [.inl (3 : Int32)]) (st := [.inr (.inr (f_Op_slotAt (pI s 8 5 a0) (2 : Int32))), .inl (9 : Int32), .inr (.inr (some 8))]) ok_Op_numberAt rfl rfl rfl (hp_obj rfl) rfl (Nat.le_of_ble_eq_true rfl) (Nat.le_of_ble_eq_true rfl) (c_Op_numberAt (d := d + 35) (pI s 8 5 a0) (3 : Int32) hc) ?_
    rintro _ _ ⟨rfl, rfl⟩
    show X _ _ 206 [some (.inr (.inr (some 8))), some (.inl a0), some (.inl (f_Op_operand (pI s 8 5 a0) (0 : Int32)))] [.inl (f_Op_numberAt (pI s 8 5 a0) (3 : Int32)), .inr (.inr (f_Op_slotAt (pI s 8 5 a0) (2 : Int32))), .inl (9 : Int32), .inr (.inr (some 8))] (hp (pI s 8 5 a0)) _
    obtain ⟨hc, hw⟩ := hw
    refine X_callv m_Op_takeThing (As := [.inl (9 : Int32), .inr (.inr (f_Op_slotAt (pI s 8 5 a0) (2 : Int32))), .inl (f_Op_numberAt (pI s 8 5 a0) (3 : Int32))]) (st := []) ok_Op_takeThing rfl rfl rfl (hp_obj rfl) rfl (Nat.le_of_ble_eq_true rfl) (Nat.le_of_ble_eq_true rfl) (c_Op_takeThing (d := d + 33) (pI s 8 5 a0) (9 : Int32) (f_Op_slotAt (pI s 8 5 a0) (2 : Int32)) (f_Op_numberAt (pI s 8 5 a0) (3 : Int32)) hc) ?_
    rintro _ _ ⟨rfl, rfl⟩
    show X _ _ 207 [some (.inr (.inr (some 8))), some (.inl a0), some (.inl (f_Op_operand (pI s 8 5 a0) (0 : Int32)))] [] (hp (f_Op_takeThing (pI s 8 5 a0) (9 : Int32) (f_Op_slotAt (pI s 8 5 a0) (2 : Int32)) (f_Op_numberAt (pI s 8 5 a0) (3 : Int32)))) _
    refine X_run 1 (i1 := 280) (L1 := [some (.inr (.inr (some 8))), some (.inl a0), some (.inl (f_Op_operand (pI s 8 5 a0) (0 : Int32)))]) (st1 := []) rfl ?_
    exact X_ret rfl rfl qVs_i
  have hw := hw.2 h8_22
  refine X_itq (fun h => ?_) (fun h8_23 => ?_)
  · refine X_tsk rfl h rfl ?_
    have hw := hw.1 h
    refine X_run 4 (i1 := 212) (L1 := [some (.inr (.inr (some 8))), some (.inl a0), some (.inl (f_Op_operand (pI s 8 5 a0) (0 : Int32)))]) (st1 := [.inl (1 : Int32), .inr (.inr (some 8)), .inl (9 : Int32), .inr (.inr (some 8))]) rfl ?_
    obtain ⟨hc, hw⟩ := hw
    refine X_callv m_Op_slotAt (As := [.inl (1 : Int32)]) (st := [.inl (9 : Int32), .inr (.inr (some 8))]) ok_Op_slotAt rfl rfl rfl (hp_obj rfl) rfl (Nat.le_of_ble_eq_true rfl) (Nat.le_of_ble_eq_true rfl) (c_Op_slotAt (d := d + 35) (pI s 8 5 a0) (1 : Int32) hc) ?_
    rintro _ _ ⟨rfl, rfl⟩
    show X _ _ 213 [some (.inr (.inr (some 8))), some (.inl a0), some (.inl (f_Op_operand (pI s 8 5 a0) (0 : Int32)))] [.inr (.inr (f_Op_slotAt (pI s 8 5 a0) (1 : Int32))), .inl (9 : Int32), .inr (.inr (some 8))] (hp (pI s 8 5 a0)) _
    refine X_run 2 (i1 := 215) (L1 := [some (.inr (.inr (some 8))), some (.inl a0), some (.inl (f_Op_operand (pI s 8 5 a0) (0 : Int32)))]) (st1 := [.inl (2 : Int32), .inr (.inr (some 8)), .inr (.inr (f_Op_slotAt (pI s 8 5 a0) (1 : Int32))), .inl (9 : Int32), .inr (.inr (some 8))]) rfl ?_
    obtain ⟨hc, hw⟩ := hw
    refine X_callv m_Op_numberAt (As := [.inl (2 : Int32)]) (st := [.inr (.inr (f_Op_slotAt (pI s 8 5 a0) (1 : Int32))), .inl (9 : Int32), .inr (.inr (some 8))]) ok_Op_numberAt rfl rfl rfl (hp_obj rfl) rfl (Nat.le_of_ble_eq_true rfl) (Nat.le_of_ble_eq_true rfl) (c_Op_numberAt (d := d + 35) (pI s 8 5 a0) (2 : Int32) hc) ?_
    rintro _ _ ⟨rfl, rfl⟩
    show X _ _ 216 [some (.inr (.inr (some 8))), some (.inl a0), some (.inl (f_Op_operand (pI s 8 5 a0) (0 : Int32)))] [.inl (f_Op_numberAt (pI s 8 5 a0) (2 : Int32)), .inr (.inr (f_Op_slotAt (pI s 8 5 a0) (1 : Int32))), .inl (9 : Int32), .inr (.inr (some 8))] (hp (pI s 8 5 a0)) _
    refine X_run 2 (i1 := 218) (L1 := [some (.inr (.inr (some 8))), some (.inl a0), some (.inl (f_Op_operand (pI s 8 5 a0) (0 : Int32)))]) (st1 := [.inl (3 : Int32), .inr (.inr (some 8)), .inl (f_Op_numberAt (pI s 8 5 a0) (2 : Int32)), .inr (.inr (f_Op_slotAt (pI s 8 5 a0) (1 : Int32))), .inl (9 : Int32), .inr (.inr (some 8))]) rfl ?_
    obtain ⟨hc, hw⟩ := hw
    refine X_callv m_Op_slotAt (As := [.inl (3 : Int32)]) (st := [.inl (f_Op_numberAt (pI s 8 5 a0) (2 : Int32)), .inr (.inr (f_Op_slotAt (pI s 8 5 a0) (1 : Int32))), .inl (9 : Int32), .inr (.inr (some 8))]) ok_Op_slotAt rfl rfl rfl (hp_obj rfl) rfl (Nat.le_of_ble_eq_true rfl) (Nat.le_of_ble_eq_true rfl) (c_Op_slotAt (d := d + 35) (pI s 8 5 a0) (3 : Int32) hc) ?_
    rintro _ _ ⟨rfl, rfl⟩
    show X _ _ 219 [some (.inr (.inr (some 8))), some (.inl a0), some (.inl (f_Op_operand (pI s 8 5 a0) (0 : Int32)))] [.inr (.inr (f_Op_slotAt (pI s 8 5 a0) (3 : Int32))), .inl (f_Op_numberAt (pI s 8 5 a0) (2 : Int32)), .inr (.inr (f_Op_slotAt (pI s 8 5 a0) (1 : Int32))), .inl (9 : Int32), .inr (.inr (some 8))] (hp (pI s 8 5 a0)) _
    obtain ⟨hc, hw⟩ := hw
    refine X_callv m_Op_putThing (As := [.inl (9 : Int32), .inr (.inr (f_Op_slotAt (pI s 8 5 a0) (1 : Int32))), .inl (f_Op_numberAt (pI s 8 5 a0) (2 : Int32)), .inr (.inr (f_Op_slotAt (pI s 8 5 a0) (3 : Int32)))]) (st := []) ok_Op_putThing rfl rfl rfl (hp_obj rfl) rfl (Nat.le_of_ble_eq_true rfl) (Nat.le_of_ble_eq_true rfl) (c_Op_putThing (d := d + 33) (pI s 8 5 a0) (9 : Int32) (f_Op_slotAt (pI s 8 5 a0) (1 : Int32)) (f_Op_numberAt (pI s 8 5 a0) (2 : Int32)) (f_Op_slotAt (pI s 8 5 a0) (3 : Int32)) hc) ?_
    rintro _ _ ⟨rfl, rfl⟩
    show X _ _ 220 [some (.inr (.inr (some 8))), some (.inl a0), some (.inl (f_Op_operand (pI s 8 5 a0) (0 : Int32)))] [] (hp (f_Op_putThing (pI s 8 5 a0) (9 : Int32) (f_Op_slotAt (pI s 8 5 a0) (1 : Int32)) (f_Op_numberAt (pI s 8 5 a0) (2 : Int32)) (f_Op_slotAt (pI s 8 5 a0) (3 : Int32)))) _
    refine X_run 1 (i1 := 280) (L1 := [some (.inr (.inr (some 8))), some (.inl a0), some (.inl (f_Op_operand (pI s 8 5 a0) (0 : Int32)))]) (st1 := []) rfl ?_
    exact X_ret rfl rfl qVs_i
  have hw := hw.2 h8_23
  refine X_itq (fun h => ?_) (fun h8_24 => ?_)
  · refine X_tsk rfl h rfl ?_
    have hw := hw.1 h
    refine X_run 4 (i1 := 225) (L1 := [some (.inr (.inr (some 8))), some (.inl a0), some (.inl (f_Op_operand (pI s 8 5 a0) (0 : Int32)))]) (st1 := [.inl (2 : Int32), .inr (.inr (some 8)), .inl (10 : Int32), .inr (.inr (some 8))]) rfl ?_
    obtain ⟨hc, hw⟩ := hw
    refine X_callv m_Op_slotAt (As := [.inl (2 : Int32)]) (st := [.inl (10 : Int32), .inr (.inr (some 8))]) ok_Op_slotAt rfl rfl rfl (hp_obj rfl) rfl (Nat.le_of_ble_eq_true rfl) (Nat.le_of_ble_eq_true rfl) (c_Op_slotAt (d := d + 35) (pI s 8 5 a0) (2 : Int32) hc) ?_
    rintro _ _ ⟨rfl, rfl⟩
    show X _ _ 226 [some (.inr (.inr (some 8))), some (.inl a0), some (.inl (f_Op_operand (pI s 8 5 a0) (0 : Int32)))] [.inr (.inr (f_Op_slotAt (pI s 8 5 a0) (2 : Int32))), .inl (10 : Int32), .inr (.inr (some 8))] (hp (pI s 8 5 a0)) _
    refine X_run 2 (i1 := 228) (L1 := [some (.inr (.inr (some 8))), some (.inl a0), some (.inl (f_Op_operand (pI s 8 5 a0) (0 : Int32)))]) (st1 := [.inl (3 : Int32), .inr (.inr (some 8)), .inr (.inr (f_Op_slotAt (pI s 8 5 a0) (2 : Int32))), .inl (10 : Int32), .inr (.inr (some 8))]) rfl ?_
    obtain ⟨hc, hw⟩ := hw
    refine X_callv m_Op_numberAt (As := [.inl (3 : Int32)]) (st := [.inr (.inr (f_Op_slotAt (pI s 8 5 a0) (2 : Int32))), .inl (10 : Int32), .inr (.inr (some 8))]) ok_Op_numberAt rfl rfl rfl (hp_obj rfl) rfl (Nat.le_of_ble_eq_true rfl) (Nat.le_of_ble_eq_true rfl) (c_Op_numberAt (d := d + 35) (pI s 8 5 a0) (3 : Int32) hc) ?_
    rintro _ _ ⟨rfl, rfl⟩
    show X _ _ 229 [some (.inr (.inr (some 8))), some (.inl a0), some (.inl (f_Op_operand (pI s 8 5 a0) (0 : Int32)))] [.inl (f_Op_numberAt (pI s 8 5 a0) (3 : Int32)), .inr (.inr (f_Op_slotAt (pI s 8 5 a0) (2 : Int32))), .inl (10 : Int32), .inr (.inr (some 8))] (hp (pI s 8 5 a0)) _
    obtain ⟨hc, hw⟩ := hw
    refine X_callv m_Op_takeThing (As := [.inl (10 : Int32), .inr (.inr (f_Op_slotAt (pI s 8 5 a0) (2 : Int32))), .inl (f_Op_numberAt (pI s 8 5 a0) (3 : Int32))]) (st := []) ok_Op_takeThing rfl rfl rfl (hp_obj rfl) rfl (Nat.le_of_ble_eq_true rfl) (Nat.le_of_ble_eq_true rfl) (c_Op_takeThing (d := d + 33) (pI s 8 5 a0) (10 : Int32) (f_Op_slotAt (pI s 8 5 a0) (2 : Int32)) (f_Op_numberAt (pI s 8 5 a0) (3 : Int32)) hc) ?_
    rintro _ _ ⟨rfl, rfl⟩
    show X _ _ 230 [some (.inr (.inr (some 8))), some (.inl a0), some (.inl (f_Op_operand (pI s 8 5 a0) (0 : Int32)))] [] (hp (f_Op_takeThing (pI s 8 5 a0) (10 : Int32) (f_Op_slotAt (pI s 8 5 a0) (2 : Int32)) (f_Op_numberAt (pI s 8 5 a0) (3 : Int32)))) _
    refine X_run 1 (i1 := 280) (L1 := [some (.inr (.inr (some 8))), some (.inl a0), some (.inl (f_Op_operand (pI s 8 5 a0) (0 : Int32)))]) (st1 := []) rfl ?_
    exact X_ret rfl rfl qVs_i
  have hw := hw.2 h8_24
  refine X_itq (fun h => ?_) (fun h8_25 => ?_)
  · refine X_tsk rfl h rfl ?_
    have hw := hw.1 h
    refine X_run 4 (i1 := 235) (L1 := [some (.inr (.inr (some 8))), some (.inl a0), some (.inl (f_Op_operand (pI s 8 5 a0) (0 : Int32)))]) (st1 := [.inl (1 : Int32), .inr (.inr (some 8)), .inl (10 : Int32), .inr (.inr (some 8))]) rfl ?_
    obtain ⟨hc, hw⟩ := hw
    refine X_callv m_Op_slotAt (As := [.inl (1 : Int32)]) (st := [.inl (10 : Int32), .inr (.inr (some 8))]) ok_Op_slotAt rfl rfl rfl (hp_obj rfl) rfl (Nat.le_of_ble_eq_true rfl) (Nat.le_of_ble_eq_true rfl) (c_Op_slotAt (d := d + 35) (pI s 8 5 a0) (1 : Int32) hc) ?_
    rintro _ _ ⟨rfl, rfl⟩
    show X _ _ 236 [some (.inr (.inr (some 8))), some (.inl a0), some (.inl (f_Op_operand (pI s 8 5 a0) (0 : Int32)))] [.inr (.inr (f_Op_slotAt (pI s 8 5 a0) (1 : Int32))), .inl (10 : Int32), .inr (.inr (some 8))] (hp (pI s 8 5 a0)) _
    refine X_run 2 (i1 := 238) (L1 := [some (.inr (.inr (some 8))), some (.inl a0), some (.inl (f_Op_operand (pI s 8 5 a0) (0 : Int32)))]) (st1 := [.inl (2 : Int32), .inr (.inr (some 8)), .inr (.inr (f_Op_slotAt (pI s 8 5 a0) (1 : Int32))), .inl (10 : Int32), .inr (.inr (some 8))]) rfl ?_
    obtain ⟨hc, hw⟩ := hw
    refine X_callv m_Op_numberAt (As := [.inl (2 : Int32)]) (st := [.inr (.inr (f_Op_slotAt (pI s 8 5 a0) (1 : Int32))), .inl (10 : Int32), .inr (.inr (some 8))]) ok_Op_numberAt rfl rfl rfl (hp_obj rfl) rfl (Nat.le_of_ble_eq_true rfl) (Nat.le_of_ble_eq_true rfl) (c_Op_numberAt (d := d + 35) (pI s 8 5 a0) (2 : Int32) hc) ?_
    rintro _ _ ⟨rfl, rfl⟩
    show X _ _ 239 [some (.inr (.inr (some 8))), some (.inl a0), some (.inl (f_Op_operand (pI s 8 5 a0) (0 : Int32)))] [.inl (f_Op_numberAt (pI s 8 5 a0) (2 : Int32)), .inr (.inr (f_Op_slotAt (pI s 8 5 a0) (1 : Int32))), .inl (10 : Int32), .inr (.inr (some 8))] (hp (pI s 8 5 a0)) _
    refine X_run 2 (i1 := 241) (L1 := [some (.inr (.inr (some 8))), some (.inl a0), some (.inl (f_Op_operand (pI s 8 5 a0) (0 : Int32)))]) (st1 := [.inl (3 : Int32), .inr (.inr (some 8)), .inl (f_Op_numberAt (pI s 8 5 a0) (2 : Int32)), .inr (.inr (f_Op_slotAt (pI s 8 5 a0) (1 : Int32))), .inl (10 : Int32), .inr (.inr (some 8))]) rfl ?_
    obtain ⟨hc, hw⟩ := hw
    refine X_callv m_Op_slotAt (As := [.inl (3 : Int32)]) (st := [.inl (f_Op_numberAt (pI s 8 5 a0) (2 : Int32)), .inr (.inr (f_Op_slotAt (pI s 8 5 a0) (1 : Int32))), .inl (10 : Int32), .inr (.inr (some 8))]) ok_Op_slotAt rfl rfl rfl (hp_obj rfl) rfl (Nat.le_of_ble_eq_true rfl) (Nat.le_of_ble_eq_true rfl) (c_Op_slotAt (d := d + 35) (pI s 8 5 a0) (3 : Int32) hc) ?_
    rintro _ _ ⟨rfl, rfl⟩
    show X _ _ 242 [some (.inr (.inr (some 8))), some (.inl a0), some (.inl (f_Op_operand (pI s 8 5 a0) (0 : Int32)))] [.inr (.inr (f_Op_slotAt (pI s 8 5 a0) (3 : Int32))), .inl (f_Op_numberAt (pI s 8 5 a0) (2 : Int32)), .inr (.inr (f_Op_slotAt (pI s 8 5 a0) (1 : Int32))), .inl (10 : Int32), .inr (.inr (some 8))] (hp (pI s 8 5 a0)) _
    obtain ⟨hc, hw⟩ := hw
    refine X_callv m_Op_putThing (As := [.inl (10 : Int32), .inr (.inr (f_Op_slotAt (pI s 8 5 a0) (1 : Int32))), .inl (f_Op_numberAt (pI s 8 5 a0) (2 : Int32)), .inr (.inr (f_Op_slotAt (pI s 8 5 a0) (3 : Int32)))]) (st := []) ok_Op_putThing rfl rfl rfl (hp_obj rfl) rfl (Nat.le_of_ble_eq_true rfl) (Nat.le_of_ble_eq_true rfl) (c_Op_putThing (d := d + 33) (pI s 8 5 a0) (10 : Int32) (f_Op_slotAt (pI s 8 5 a0) (1 : Int32)) (f_Op_numberAt (pI s 8 5 a0) (2 : Int32)) (f_Op_slotAt (pI s 8 5 a0) (3 : Int32)) hc) ?_
    rintro _ _ ⟨rfl, rfl⟩
    show X _ _ 243 [some (.inr (.inr (some 8))), some (.inl a0), some (.inl (f_Op_operand (pI s 8 5 a0) (0 : Int32)))] [] (hp (f_Op_putThing (pI s 8 5 a0) (10 : Int32) (f_Op_slotAt (pI s 8 5 a0) (1 : Int32)) (f_Op_numberAt (pI s 8 5 a0) (2 : Int32)) (f_Op_slotAt (pI s 8 5 a0) (3 : Int32)))) _
    refine X_run 1 (i1 := 280) (L1 := [some (.inr (.inr (some 8))), some (.inl a0), some (.inl (f_Op_operand (pI s 8 5 a0) (0 : Int32)))]) (st1 := []) rfl ?_
    exact X_ret rfl rfl qVs_i
  have hw := hw.2 h8_25
  refine X_itq (fun h => ?_) (fun h8_26 => ?_)
  · refine X_tsk rfl h rfl ?_
    have hw := hw.1 h
    refine X_run 3 (i1 := 247) (L1 := [some (.inr (.inr (some 8))), some (.inl a0), some (.inl (f_Op_operand (pI s 8 5 a0) (0 : Int32)))]) (st1 := [.inl (1 : Int32), .inr (.inr (some 8)), .inr (.inr (some 8))]) rfl ?_
    obtain ⟨hc, hw⟩ := hw
    refine X_callv m_Op_operand (As := [.inl (1 : Int32)]) (st := [.inr (.inr (some 8))]) ok_Op_operand rfl rfl rfl (hp_obj rfl) rfl (Nat.le_of_ble_eq_true rfl) (Nat.le_of_ble_eq_true rfl) (c_Op_operand (d := d + 36) (pI s 8 5 a0) (1 : Int32) hc) ?_
    rintro _ _ ⟨rfl, rfl⟩
    show X _ _ 248 [some (.inr (.inr (some 8))), some (.inl a0), some (.inl (f_Op_operand (pI s 8 5 a0) (0 : Int32)))] [.inl (f_Op_operand (pI s 8 5 a0) (1 : Int32)), .inr (.inr (some 8))] (hp (pI s 8 5 a0)) _
    refine X_run 2 (i1 := 250) (L1 := [some (.inr (.inr (some 8))), some (.inl a0), some (.inl (f_Op_operand (pI s 8 5 a0) (0 : Int32)))]) (st1 := [.inl (3 : Int32), .inr (.inr (some 8)), .inl (f_Op_operand (pI s 8 5 a0) (1 : Int32)), .inr (.inr (some 8))]) rfl ?_
    obtain ⟨hc, hw⟩ := hw
    refine X_callv m_Op_slotAt (As := [.inl (3 : Int32)]) (st := [.inl (f_Op_operand (pI s 8 5 a0) (1 : Int32)), .inr (.inr (some 8))]) ok_Op_slotAt rfl rfl rfl (hp_obj rfl) rfl (Nat.le_of_ble_eq_true rfl) (Nat.le_of_ble_eq_true rfl) (c_Op_slotAt (d := d + 35) (pI s 8 5 a0) (3 : Int32) hc) ?_
    rintro _ _ ⟨rfl, rfl⟩
    show X _ _ 251 [some (.inr (.inr (some 8))), some (.inl a0), some (.inl (f_Op_operand (pI s 8 5 a0) (0 : Int32)))] [.inr (.inr (f_Op_slotAt (pI s 8 5 a0) (3 : Int32))), .inl (f_Op_operand (pI s 8 5 a0) (1 : Int32)), .inr (.inr (some 8))] (hp (pI s 8 5 a0)) _
    obtain ⟨hc, hw⟩ := hw
    refine X_callv m_Op_takeField (As := [.inl (f_Op_operand (pI s 8 5 a0) (1 : Int32)), .inr (.inr (f_Op_slotAt (pI s 8 5 a0) (3 : Int32)))]) (st := []) ok_Op_takeField rfl rfl rfl (hp_obj rfl) rfl (Nat.le_of_ble_eq_true rfl) (Nat.le_of_ble_eq_true rfl) (c_Op_takeField (d := d + 33) (pI s 8 5 a0) (f_Op_operand (pI s 8 5 a0) (1 : Int32)) (f_Op_slotAt (pI s 8 5 a0) (3 : Int32)) hc) ?_
    rintro _ _ ⟨rfl, rfl⟩
    show X _ _ 252 [some (.inr (.inr (some 8))), some (.inl a0), some (.inl (f_Op_operand (pI s 8 5 a0) (0 : Int32)))] [] (hp (f_Op_takeField (pI s 8 5 a0) (f_Op_operand (pI s 8 5 a0) (1 : Int32)) (f_Op_slotAt (pI s 8 5 a0) (3 : Int32)))) _
    refine X_run 1 (i1 := 280) (L1 := [some (.inr (.inr (some 8))), some (.inl a0), some (.inl (f_Op_operand (pI s 8 5 a0) (0 : Int32)))]) (st1 := []) rfl ?_
    exact X_ret rfl rfl qVs_i
  have hw := hw.2 h8_26
  refine X_itq (fun h => ?_) (fun h8_27 => ?_)
  · refine X_tsk rfl h rfl ?_
    have hw := hw.1 h
    refine X_run 3 (i1 := 256) (L1 := [some (.inr (.inr (some 8))), some (.inl a0), some (.inl (f_Op_operand (pI s 8 5 a0) (0 : Int32)))]) (st1 := [.inl (1 : Int32), .inr (.inr (some 8)), .inr (.inr (some 8))]) rfl ?_
    obtain ⟨hc, hw⟩ := hw
    refine X_callv m_Op_operand (As := [.inl (1 : Int32)]) (st := [.inr (.inr (some 8))]) ok_Op_operand rfl rfl rfl (hp_obj rfl) rfl (Nat.le_of_ble_eq_true rfl) (Nat.le_of_ble_eq_true rfl) (c_Op_operand (d := d + 36) (pI s 8 5 a0) (1 : Int32) hc) ?_
    rintro _ _ ⟨rfl, rfl⟩
    show X _ _ 257 [some (.inr (.inr (some 8))), some (.inl a0), some (.inl (f_Op_operand (pI s 8 5 a0) (0 : Int32)))] [.inl (f_Op_operand (pI s 8 5 a0) (1 : Int32)), .inr (.inr (some 8))] (hp (pI s 8 5 a0)) _
    refine X_run 2 (i1 := 259) (L1 := [some (.inr (.inr (some 8))), some (.inl a0), some (.inl (f_Op_operand (pI s 8 5 a0) (0 : Int32)))]) (st1 := [.inl (2 : Int32), .inr (.inr (some 8)), .inl (f_Op_operand (pI s 8 5 a0) (1 : Int32)), .inr (.inr (some 8))]) rfl ?_
    obtain ⟨hc, hw⟩ := hw
    refine X_callv m_Op_slotAt (As := [.inl (2 : Int32)]) (st := [.inl (f_Op_operand (pI s 8 5 a0) (1 : Int32)), .inr (.inr (some 8))]) ok_Op_slotAt rfl rfl rfl (hp_obj rfl) rfl (Nat.le_of_ble_eq_true rfl) (Nat.le_of_ble_eq_true rfl) (c_Op_slotAt (d := d + 35) (pI s 8 5 a0) (2 : Int32) hc) ?_
    rintro _ _ ⟨rfl, rfl⟩
    show X _ _ 260 [some (.inr (.inr (some 8))), some (.inl a0), some (.inl (f_Op_operand (pI s 8 5 a0) (0 : Int32)))] [.inr (.inr (f_Op_slotAt (pI s 8 5 a0) (2 : Int32))), .inl (f_Op_operand (pI s 8 5 a0) (1 : Int32)), .inr (.inr (some 8))] (hp (pI s 8 5 a0)) _
    obtain ⟨hc, hw⟩ := hw
    refine X_callv m_Op_putField (As := [.inl (f_Op_operand (pI s 8 5 a0) (1 : Int32)), .inr (.inr (f_Op_slotAt (pI s 8 5 a0) (2 : Int32)))]) (st := []) ok_Op_putField rfl rfl rfl (hp_obj rfl) rfl (Nat.le_of_ble_eq_true rfl) (Nat.le_of_ble_eq_true rfl) (c_Op_putField (d := d + 33) (pI s 8 5 a0) (f_Op_operand (pI s 8 5 a0) (1 : Int32)) (f_Op_slotAt (pI s 8 5 a0) (2 : Int32)) hc) ?_
    rintro _ _ ⟨rfl, rfl⟩
    show X _ _ 261 [some (.inr (.inr (some 8))), some (.inl a0), some (.inl (f_Op_operand (pI s 8 5 a0) (0 : Int32)))] [] (hp (f_Op_putField (pI s 8 5 a0) (f_Op_operand (pI s 8 5 a0) (1 : Int32)) (f_Op_slotAt (pI s 8 5 a0) (2 : Int32)))) _
    refine X_run 1 (i1 := 280) (L1 := [some (.inr (.inr (some 8))), some (.inl a0), some (.inl (f_Op_operand (pI s 8 5 a0) (0 : Int32)))]) (st1 := []) rfl ?_
    exact X_ret rfl rfl qVs_i
  have hw := hw.2 h8_27
  refine X_itq (fun h => ?_) (fun h8_28 => ?_)
  · refine X_tsk rfl h rfl ?_
    have hw := hw.1 h
    refine X_run 3 (i1 := 265) (L1 := [some (.inr (.inr (some 8))), some (.inl a0), some (.inl (f_Op_operand (pI s 8 5 a0) (0 : Int32)))]) (st1 := [.inl (1 : Int32), .inr (.inr (some 8)), .inr (.inr (some 8))]) rfl ?_
    obtain ⟨hc, hw⟩ := hw
    refine X_callv m_Op_operand (As := [.inl (1 : Int32)]) (st := [.inr (.inr (some 8))]) ok_Op_operand rfl rfl rfl (hp_obj rfl) rfl (Nat.le_of_ble_eq_true rfl) (Nat.le_of_ble_eq_true rfl) (c_Op_operand (d := d + 36) (pI s 8 5 a0) (1 : Int32) hc) ?_
    rintro _ _ ⟨rfl, rfl⟩
    show X _ _ 266 [some (.inr (.inr (some 8))), some (.inl a0), some (.inl (f_Op_operand (pI s 8 5 a0) (0 : Int32)))] [.inl (f_Op_operand (pI s 8 5 a0) (1 : Int32)), .inr (.inr (some 8))] (hp (pI s 8 5 a0)) _
    refine X_run 2 (i1 := 268) (L1 := [some (.inr (.inr (some 8))), some (.inl a0), some (.inl (f_Op_operand (pI s 8 5 a0) (0 : Int32)))]) (st1 := [.inl (3 : Int32), .inr (.inr (some 8)), .inl (f_Op_operand (pI s 8 5 a0) (1 : Int32)), .inr (.inr (some 8))]) rfl ?_
    obtain ⟨hc, hw⟩ := hw
    refine X_callv m_Op_slotAt (As := [.inl (3 : Int32)]) (st := [.inl (f_Op_operand (pI s 8 5 a0) (1 : Int32)), .inr (.inr (some 8))]) ok_Op_slotAt rfl rfl rfl (hp_obj rfl) rfl (Nat.le_of_ble_eq_true rfl) (Nat.le_of_ble_eq_true rfl) (c_Op_slotAt (d := d + 35) (pI s 8 5 a0) (3 : Int32) hc) ?_
    rintro _ _ ⟨rfl, rfl⟩
    show X _ _ 269 [some (.inr (.inr (some 8))), some (.inl a0), some (.inl (f_Op_operand (pI s 8 5 a0) (0 : Int32)))] [.inr (.inr (f_Op_slotAt (pI s 8 5 a0) (3 : Int32))), .inl (f_Op_operand (pI s 8 5 a0) (1 : Int32)), .inr (.inr (some 8))] (hp (pI s 8 5 a0)) _
    refine X_run 2 (i1 := 271) (L1 := [some (.inr (.inr (some 8))), some (.inl a0), some (.inl (f_Op_operand (pI s 8 5 a0) (0 : Int32)))]) (st1 := [.inl (4 : Int32), .inr (.inr (some 8)), .inr (.inr (f_Op_slotAt (pI s 8 5 a0) (3 : Int32))), .inl (f_Op_operand (pI s 8 5 a0) (1 : Int32)), .inr (.inr (some 8))]) rfl ?_
    obtain ⟨hc, hw⟩ := hw
    refine X_callv m_Op_numberAt (As := [.inl (4 : Int32)]) (st := [.inr (.inr (f_Op_slotAt (pI s 8 5 a0) (3 : Int32))), .inl (f_Op_operand (pI s 8 5 a0) (1 : Int32)), .inr (.inr (some 8))]) ok_Op_numberAt rfl rfl rfl (hp_obj rfl) rfl (Nat.le_of_ble_eq_true rfl) (Nat.le_of_ble_eq_true rfl) (c_Op_numberAt (d := d + 35) (pI s 8 5 a0) (4 : Int32) hc) ?_
    rintro _ _ ⟨rfl, rfl⟩
    show X _ _ 272 [some (.inr (.inr (some 8))), some (.inl a0), some (.inl (f_Op_operand (pI s 8 5 a0) (0 : Int32)))] [.inl (f_Op_numberAt (pI s 8 5 a0) (4 : Int32)), .inr (.inr (f_Op_slotAt (pI s 8 5 a0) (3 : Int32))), .inl (f_Op_operand (pI s 8 5 a0) (1 : Int32)), .inr (.inr (some 8))] (hp (pI s 8 5 a0)) _
    obtain ⟨hc, hw⟩ := hw
    refine X_callv m_Op_ask (As := [.inl (f_Op_operand (pI s 8 5 a0) (1 : Int32)), .inr (.inr (f_Op_slotAt (pI s 8 5 a0) (3 : Int32))), .inl (f_Op_numberAt (pI s 8 5 a0) (4 : Int32))]) (st := []) ok_Op_ask rfl rfl rfl (hp_obj rfl) rfl (Nat.le_of_ble_eq_true rfl) (Nat.le_of_ble_eq_true rfl) (c_Op_ask (d := d) fu (pI s 8 5 a0) (f_Op_operand (pI s 8 5 a0) (1 : Int32)) (f_Op_slotAt (pI s 8 5 a0) (3 : Int32)) (f_Op_numberAt (pI s 8 5 a0) (4 : Int32)) hc) ?_
    rintro _ _ ⟨rfl, rfl⟩
    show X _ _ 273 [some (.inr (.inr (some 8))), some (.inl a0), some (.inl (f_Op_operand (pI s 8 5 a0) (0 : Int32)))] [] (hp (f_Op_ask fu (pI s 8 5 a0) (f_Op_operand (pI s 8 5 a0) (1 : Int32)) (f_Op_slotAt (pI s 8 5 a0) (3 : Int32)) (f_Op_numberAt (pI s 8 5 a0) (4 : Int32)))) _
    refine X_run 1 (i1 := 280) (L1 := [some (.inr (.inr (some 8))), some (.inl a0), some (.inl (f_Op_operand (pI s 8 5 a0) (0 : Int32)))]) (st1 := []) rfl ?_
    exact X_ret rfl rfl qVs_i
  have hw := hw.2 h8_28
  refine X_itq (fun h => ?_) (fun h8_29 => ?_)
  · refine X_tsk rfl h rfl ?_
    exact X_ret rfl rfl qVs_i
  have hw := hw.2 h8_29
  refine X_itq (fun h => ?_) (fun h8_30 => ?_)
  · refine X_tsk rfl h rfl ?_
    exact X_ret rfl rfl qVs_i
  have hw := hw.2 h8_30
  refine X_itq (fun h => ?_) (fun h8_31 => ?_)
  · refine X_tsk rfl h rfl ?_
    exact X_ret rfl rfl qVs_i
  have hw := hw.2 h8_31
  refine X_itq (fun h => ?_) (fun h8_32 => ?_)
  · refine X_tsk rfl h rfl ?_
    exact X_ret rfl rfl qVs_i
  have hw := hw.2 h8_32
  refine X_itq (fun h => ?_) (fun h8_33 => ?_)
  · refine X_tsk rfl h rfl ?_
    have hw := hw.1 h
    refine X_run 3 (i1 := 277) (L1 := [some (.inr (.inr (some 8))), some (.inl a0), some (.inl (f_Op_operand (pI s 8 5 a0) (0 : Int32)))]) (st1 := [.inl (1 : Int32), .inr (.inr (some 8)), .inr (.inr (some 8))]) rfl ?_
    obtain ⟨hc, hw⟩ := hw
    refine X_callv m_Op_slotAt (As := [.inl (1 : Int32)]) (st := [.inr (.inr (some 8))]) ok_Op_slotAt rfl rfl rfl (hp_obj rfl) rfl (Nat.le_of_ble_eq_true rfl) (Nat.le_of_ble_eq_true rfl) (c_Op_slotAt (d := d + 35) (pI s 8 5 a0) (1 : Int32) hc) ?_
    rintro _ _ ⟨rfl, rfl⟩
    show X _ _ 278 [some (.inr (.inr (some 8))), some (.inl a0), some (.inl (f_Op_operand (pI s 8 5 a0) (0 : Int32)))] [.inr (.inr (f_Op_slotAt (pI s 8 5 a0) (1 : Int32))), .inr (.inr (some 8))] (hp (pI s 8 5 a0)) _
    obtain ⟨hc, hw⟩ := hw
    refine X_callv m_Op_tell (As := [.inr (.inr (f_Op_slotAt (pI s 8 5 a0) (1 : Int32)))]) (st := []) ok_Op_tell rfl rfl rfl (hp_obj rfl) rfl (Nat.le_of_ble_eq_true rfl) (Nat.le_of_ble_eq_true rfl) (c_Op_tell (d := d + 33) (pI s 8 5 a0) (f_Op_slotAt (pI s 8 5 a0) (1 : Int32)) hc) ?_
    rintro _ _ ⟨rfl, rfl⟩
    show X _ _ 279 [some (.inr (.inr (some 8))), some (.inl a0), some (.inl (f_Op_operand (pI s 8 5 a0) (0 : Int32)))] [] (hp (f_Op_tell (pI s 8 5 a0) (f_Op_slotAt (pI s 8 5 a0) (1 : Int32)))) _
    refine X_run 1 (i1 := 280) (L1 := [some (.inr (.inr (some 8))), some (.inl a0), some (.inl (f_Op_operand (pI s 8 5 a0) (0 : Int32)))]) (st1 := []) rfl ?_
    exact X_ret rfl rfl qVs_i
  refine X_tsd rfl ((sw_out (1) 34 (by decide) (by decide) (fun j hj => by
    match j, hj with
    | 0, _ => exact h8_0
    | 1, _ => exact h8_1
    | 2, _ => exact h8_2
    | 3, _ => exact h8_3
    | 4, _ => exact h8_4
    | 5, _ => exact h8_5
    | 6, _ => exact h8_6
    | 7, _ => exact h8_7
    | 8, _ => exact h8_8
    | 9, _ => exact h8_9
    | 10, _ => exact h8_10
    | 11, _ => exact h8_11
    | 12, _ => exact h8_12
    | 13, _ => exact h8_13
    | 14, _ => exact h8_14
    | 15, _ => exact h8_15
    | 16, _ => exact h8_16
    | 17, _ => exact h8_17
    | 18, _ => exact h8_18
    | 19, _ => exact h8_19
    | 20, _ => exact h8_20
    | 21, _ => exact h8_21
    | 22, _ => exact h8_22
    | 23, _ => exact h8_23
    | 24, _ => exact h8_24
    | 25, _ => exact h8_25
    | 26, _ => exact h8_26
    | 27, _ => exact h8_27
    | 28, _ => exact h8_28
    | 29, _ => exact h8_29
    | 30, _ => exact h8_30
    | 31, _ => exact h8_31
    | 32, _ => exact h8_32
    | 33, _ => exact h8_33
    | j + 34, hj => exact absurd hj (by omega))).imp id (fun h => by omega)) ?_
  exact X_ret rfl rfl qVs_i
