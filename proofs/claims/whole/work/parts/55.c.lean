def t_H_feed_29 (fu : Nat) (s : St) : Int32 × St := (sI s 2 2, s)
def w_H_feed_29 (fu : Nat) (s : St) : Prop := True
theorem ct_H_feed_29 {d : Nat} (fu : Nat) (s : St) (hw : w_H_feed_29 fu s) : X m_H_feed (d + 1) 29 [some (.inr (.inr (some 0))), none, none, none, none, none] [] (hp s) (qIs (t_H_feed_29 fu s)) := by
  unfold t_H_feed_29
  unfold w_H_feed_29 at hw
  refine X_run 1 (i1 := 30) (L1 := [some (.inr (.inr (some 0))), none, none, none, none, none]) (st1 := [.inr (.inr (some 0))]) rfl ?_
  refine X_gF (v := .inr (.inr (some 2))) rfl rfl rfl rfl ?_
  refine X_gF (v := .inl (sI s 2 2)) rfl rfl rfl rfl ?_
  exact X_iret rfl rfl qIs_i
def t_H_feed_25 (fu : Nat) (s : St) (v5 : Int32) : Int32 × St := (t_H_feed_29 fu (f_Fo_append fu s v5))
def w_H_feed_25 (fu : Nat) (s : St) (v5 : Int32) : Prop := (w_Fo_append fu s v5 ∧ (w_H_feed_29 fu (f_Fo_append fu s v5)))
theorem ct_H_feed_25 {d : Nat} (fu : Nat) (s : St) (v5 : Int32) (hw : w_H_feed_25 fu s v5) : X m_H_feed (d + 1) 25 [some (.inr (.inr (some 0))), none, none, none, none, some (.inl v5)] [] (hp s) (qIs (t_H_feed_25 fu s v5)) := by
  unfold t_H_feed_25
  unfold w_H_feed_25 at hw
  refine X_run 1 (i1 := 26) (L1 := [some (.inr (.inr (some 0))), none, none, none, none, some (.inl v5)]) (st1 := [.inr (.inr (some 0))]) rfl ?_
  refine X_gF (v := .inr (.inr (some 2))) rfl rfl rfl rfl ?_
  refine X_run 1 (i1 := 28) (L1 := [some (.inr (.inr (some 0))), none, none, none, none, some (.inl v5)]) (st1 := [.inl v5, .inr (.inr (some 2))]) rfl ?_
  obtain ⟨hc, hw⟩ := hw
  refine X_callv m_Fo_append (As := [.inl v5]) (st := []) ok_Fo_append rfl rfl rfl (hp_obj rfl) rfl (Nat.le_of_ble_eq_true rfl) (Nat.le_of_ble_eq_true rfl) (c_Fo_append (d := d) fu s v5 hc) ?_
  rintro _ _ ⟨rfl, rfl⟩
  show X _ _ 29 [some (.inr (.inr (some 0))), none, none, none, none, some (.inl v5)] [] (hp (f_Fo_append fu s v5)) _
  show X _ _ 29 [some (.inr (.inr (some 0))), none, none, none, none, some (.inl v5)] [] (hp (f_Fo_append fu s v5)) _
  refine X_mask [true, true, true, true, true, false] ?_
  exact ct_H_feed_29 fu (f_Fo_append fu s v5) hw
def t_H_feed_21 (fu : Nat) (s : St) (v4 : Int32) (v5 : Int32) : Int32 × St := (t_H_feed_25 fu (f_Fo_append fu s v4) v5)
def w_H_feed_21 (fu : Nat) (s : St) (v4 : Int32) (v5 : Int32) : Prop := (w_Fo_append fu s v4 ∧ (w_H_feed_25 fu (f_Fo_append fu s v4) v5))
theorem ct_H_feed_21 {d : Nat} (fu : Nat) (s : St) (v4 : Int32) (v5 : Int32) (hw : w_H_feed_21 fu s v4 v5) : X m_H_feed (d + 1) 21 [some (.inr (.inr (some 0))), none, none, none, some (.inl v4), some (.inl v5)] [] (hp s) (qIs (t_H_feed_21 fu s v4 v5)) := by
  unfold t_H_feed_21
  unfold w_H_feed_21 at hw
  refine X_run 1 (i1 := 22) (L1 := [some (.inr (.inr (some 0))), none, none, none, some (.inl v4), some (.inl v5)]) (st1 := [.inr (.inr (some 0))]) rfl ?_
  refine X_gF (v := .inr (.inr (some 2))) rfl rfl rfl rfl ?_
  refine X_run 1 (i1 := 24) (L1 := [some (.inr (.inr (some 0))), none, none, none, some (.inl v4), some (.inl v5)]) (st1 := [.inl v4, .inr (.inr (some 2))]) rfl ?_
  obtain ⟨hc, hw⟩ := hw
  refine X_callv m_Fo_append (As := [.inl v4]) (st := []) ok_Fo_append rfl rfl rfl (hp_obj rfl) rfl (Nat.le_of_ble_eq_true rfl) (Nat.le_of_ble_eq_true rfl) (c_Fo_append (d := d) fu s v4 hc) ?_
  rintro _ _ ⟨rfl, rfl⟩
  show X _ _ 25 [some (.inr (.inr (some 0))), none, none, none, some (.inl v4), some (.inl v5)] [] (hp (f_Fo_append fu s v4)) _
  show X _ _ 25 [some (.inr (.inr (some 0))), none, none, none, some (.inl v4), some (.inl v5)] [] (hp (f_Fo_append fu s v4)) _
  refine X_mask [true, true, true, true, false, true] ?_
  exact ct_H_feed_25 fu (f_Fo_append fu s v4) v5 hw
def t_H_feed_17 (fu : Nat) (s : St) (v3 : Int32) (v4 : Int32) (v5 : Int32) : Int32 × St := (t_H_feed_21 fu (f_Fo_append fu s v3) v4 v5)
def w_H_feed_17 (fu : Nat) (s : St) (v3 : Int32) (v4 : Int32) (v5 : Int32) : Prop := (w_Fo_append fu s v3 ∧ (w_H_feed_21 fu (f_Fo_append fu s v3) v4 v5))
theorem ct_H_feed_17 {d : Nat} (fu : Nat) (s : St) (v3 : Int32) (v4 : Int32) (v5 : Int32) (hw : w_H_feed_17 fu s v3 v4 v5) : X m_H_feed (d + 1) 17 [some (.inr (.inr (some 0))), none, none, some (.inl v3), some (.inl v4), some (.inl v5)] [] (hp s) (qIs (t_H_feed_17 fu s v3 v4 v5)) := by
  unfold t_H_feed_17
  unfold w_H_feed_17 at hw
  refine X_run 1 (i1 := 18) (L1 := [some (.inr (.inr (some 0))), none, none, some (.inl v3), some (.inl v4), some (.inl v5)]) (st1 := [.inr (.inr (some 0))]) rfl ?_
  refine X_gF (v := .inr (.inr (some 2))) rfl rfl rfl rfl ?_
  refine X_run 1 (i1 := 20) (L1 := [some (.inr (.inr (some 0))), none, none, some (.inl v3), some (.inl v4), some (.inl v5)]) (st1 := [.inl v3, .inr (.inr (some 2))]) rfl ?_
  obtain ⟨hc, hw⟩ := hw
  refine X_callv m_Fo_append (As := [.inl v3]) (st := []) ok_Fo_append rfl rfl rfl (hp_obj rfl) rfl (Nat.le_of_ble_eq_true rfl) (Nat.le_of_ble_eq_true rfl) (c_Fo_append (d := d) fu s v3 hc) ?_
  rintro _ _ ⟨rfl, rfl⟩
  show X _ _ 21 [some (.inr (.inr (some 0))), none, none, some (.inl v3), some (.inl v4), some (.inl v5)] [] (hp (f_Fo_append fu s v3)) _
  show X _ _ 21 [some (.inr (.inr (some 0))), none, none, some (.inl v3), some (.inl v4), some (.inl v5)] [] (hp (f_Fo_append fu s v3)) _
  refine X_mask [true, true, true, false, true, true] ?_
  exact ct_H_feed_21 fu (f_Fo_append fu s v3) v4 v5 hw
def t_H_feed_13 (fu : Nat) (s : St) (v2 : Int32) (v3 : Int32) (v4 : Int32) (v5 : Int32) : Int32 × St := (t_H_feed_17 fu (f_Fo_append fu s v2) v3 v4 v5)
def w_H_feed_13 (fu : Nat) (s : St) (v2 : Int32) (v3 : Int32) (v4 : Int32) (v5 : Int32) : Prop := (w_Fo_append fu s v2 ∧ (w_H_feed_17 fu (f_Fo_append fu s v2) v3 v4 v5))
theorem ct_H_feed_13 {d : Nat} (fu : Nat) (s : St) (v2 : Int32) (v3 : Int32) (v4 : Int32) (v5 : Int32) (hw : w_H_feed_13 fu s v2 v3 v4 v5) : X m_H_feed (d + 1) 13 [some (.inr (.inr (some 0))), none, some (.inl v2), some (.inl v3), some (.inl v4), some (.inl v5)] [] (hp s) (qIs (t_H_feed_13 fu s v2 v3 v4 v5)) := by
  unfold t_H_feed_13
  unfold w_H_feed_13 at hw
  refine X_run 1 (i1 := 14) (L1 := [some (.inr (.inr (some 0))), none, some (.inl v2), some (.inl v3), some (.inl v4), some (.inl v5)]) (st1 := [.inr (.inr (some 0))]) rfl ?_
  refine X_gF (v := .inr (.inr (some 2))) rfl rfl rfl rfl ?_
  refine X_run 1 (i1 := 16) (L1 := [some (.inr (.inr (some 0))), none, some (.inl v2), some (.inl v3), some (.inl v4), some (.inl v5)]) (st1 := [.inl v2, .inr (.inr (some 2))]) rfl ?_
  obtain ⟨hc, hw⟩ := hw
  refine X_callv m_Fo_append (As := [.inl v2]) (st := []) ok_Fo_append rfl rfl rfl (hp_obj rfl) rfl (Nat.le_of_ble_eq_true rfl) (Nat.le_of_ble_eq_true rfl) (c_Fo_append (d := d) fu s v2 hc) ?_
  rintro _ _ ⟨rfl, rfl⟩
  show X _ _ 17 [some (.inr (.inr (some 0))), none, some (.inl v2), some (.inl v3), some (.inl v4), some (.inl v5)] [] (hp (f_Fo_append fu s v2)) _
  show X _ _ 17 [some (.inr (.inr (some 0))), none, some (.inl v2), some (.inl v3), some (.inl v4), some (.inl v5)] [] (hp (f_Fo_append fu s v2)) _
  refine X_mask [true, true, false, true, true, true] ?_
  exact ct_H_feed_17 fu (f_Fo_append fu s v2) v3 v4 v5 hw
def f_H_feed (fu : Nat) (s : St) (a0 : Int32) (a1 : Int32) (a2 : Int32) (a3 : Int32) (a4 : Int32) : Int32 × St := (cond (cn2 .le ((sI s 2 2) + (20 : Int32)) (2000 : Int32)) (t_H_feed_13 fu (f_Fo_append fu s a0) a1 a2 a3 a4) ((-1 : Int32), s))
def w_H_feed (fu : Nat) (s : St) (a0 : Int32) (a1 : Int32) (a2 : Int32) (a3 : Int32) (a4 : Int32) : Prop := ((cn2 .le ((sI s 2 2) + (20 : Int32)) (2000 : Int32)) = true → (w_Fo_append fu s a0 ∧ (w_H_feed_13 fu (f_Fo_append fu s a0) a1 a2 a3 a4))) ∧ ((cn2 .le ((sI s 2 2) + (20 : Int32)) (2000 : Int32)) = false → True)
theorem c_H_feed {d : Nat} (fu : Nat) (s : St) (a0 : Int32) (a1 : Int32) (a2 : Int32) (a3 : Int32) (a4 : Int32) (hw : w_H_feed fu s a0 a1 a2 a3 a4) : X m_H_feed (d + 1) 0 (entL 6 [.inr (.inr (some 0)), .inl a0, .inl a1, .inl a2, .inl a3, .inl a4]) [] (hp s) (qIs (f_H_feed fu s a0 a1 a2 a3 a4)) := by
  unfold f_H_feed
  unfold w_H_feed at hw
  refine X_run 1 (i1 := 1) (L1 := [some (.inr (.inr (some 0))), some (.inl a0), some (.inl a1), some (.inl a2), some (.inl a3), some (.inl a4)]) (st1 := [.inr (.inr (some 0))]) rfl ?_
  refine X_gF (v := .inr (.inr (some 2))) rfl rfl rfl rfl ?_
  refine X_gF (v := .inl (sI s 2 2)) rfl rfl rfl rfl ?_
  refine X_run 4 (i1 := cond (cn2 .le ((sI s 2 2) + (20 : Int32)) (2000 : Int32)) 9 7) (L1 := [some (.inr (.inr (some 0))), some (.inl a0), some (.inl a1), some (.inl a2), some (.inl a3), some (.inl a4)]) (st1 := []) rfl ?_
  refine X_brq (fun hb => ?_) (fun hb => ?_)
  · have hw := hw.1 hb
    refine X_run 1 (i1 := 10) (L1 := [some (.inr (.inr (some 0))), some (.inl a0), some (.inl a1), some (.inl a2), some (.inl a3), some (.inl a4)]) (st1 := [.inr (.inr (some 0))]) rfl ?_
    refine X_gF (v := .inr (.inr (some 2))) rfl rfl rfl rfl ?_
    refine X_run 1 (i1 := 12) (L1 := [some (.inr (.inr (some 0))), some (.inl a0), some (.inl a1), some (.inl a2), some (.inl a3), some (.inl a4)]) (st1 := [.inl a0, .inr (.inr (some 2))]) rfl ?_
    obtain ⟨hc, hw⟩ := hw
    refine X_callv m_Fo_append (As := [.inl a0]) (st := []) ok_Fo_append rfl rfl rfl (hp_obj rfl) rfl (Nat.le_of_ble_eq_true rfl) (Nat.le_of_ble_eq_true rfl) (c_Fo_append (d := d) fu s a0 hc) ?_
    rintro _ _ ⟨rfl, rfl⟩
    show X _ _ 13 [some (.inr (.inr (some 0))), some (.inl a0), some (.inl a1), some (.inl a2), some (.inl a3), some (.inl a4)] [] (hp (f_Fo_append fu s a0)) _
    show X _ _ 13 [some (.inr (.inr (some 0))), some (.inl a0), some (.inl a1), some (.inl a2), some (.inl a3), some (.inl a4)] [] (hp (f_Fo_append fu s a0)) _
    refine X_mask [true, false, true, true, true, true] ?_
    exact ct_H_feed_13 fu (f_Fo_append fu s a0) a1 a2 a3 a4 hw
  · skip
    refine X_run 1 (i1 := 8) (L1 := [some (.inr (.inr (some 0))), some (.inl a0), some (.inl a1), some (.inl a2), some (.inl a3), some (.inl a4)]) (st1 := [.inl (-1 : Int32)]) rfl ?_
    exact X_iret rfl rfl qIs_i
def f_H_end (s : St) (a0 : Int32) : Int32 × St := (cond (cn1 .lt a0) ((-1 : Int32), s) (cond (cn2 .le a0 (sI s 2 2)) (a0, pI s 2 2 a0) ((-1 : Int32), s)))
def w_H_end (s : St) (a0 : Int32) : Prop := True
theorem c_H_end {d : Nat} (s : St) (a0 : Int32) (hw : w_H_end s a0) : X m_H_end (d) 0 (entL 2 [.inr (.inr (some 0)), .inl a0]) [] (hp s) (qIs (f_H_end s a0)) := by
  unfold f_H_end
  unfold w_H_end at hw
  refine X_run 2 (i1 := cond (cn1 .lt a0) 7 2) (L1 := [some (.inr (.inr (some 0))), some (.inl a0)]) (st1 := []) rfl ?_
  refine X_brq (fun hb => ?_) (fun hb => ?_)
  · skip
    refine X_run 1 (i1 := 8) (L1 := [some (.inr (.inr (some 0))), some (.inl a0)]) (st1 := [.inl (-1 : Int32)]) rfl ?_
    exact X_iret rfl rfl qIs_i
  · skip
    refine X_run 2 (i1 := 4) (L1 := [some (.inr (.inr (some 0))), some (.inl a0)]) (st1 := [.inr (.inr (some 0)), .inl a0]) rfl ?_
    refine X_gF (v := .inr (.inr (some 2))) rfl rfl rfl rfl ?_
    refine X_gF (v := .inl (sI s 2 2)) rfl rfl rfl rfl ?_
    refine X_run 1 (i1 := cond (cn2 .le a0 (sI s 2 2)) 9 7) (L1 := [some (.inr (.inr (some 0))), some (.inl a0)]) (st1 := []) rfl ?_
    refine X_brq (fun hb => ?_) (fun hb => ?_)
    · skip
      refine X_run 1 (i1 := 10) (L1 := [some (.inr (.inr (some 0))), some (.inl a0)]) (st1 := [.inr (.inr (some 0))]) rfl ?_
      refine X_gF (v := .inr (.inr (some 2))) rfl rfl rfl rfl ?_
      refine X_run 1 (i1 := 12) (L1 := [some (.inr (.inr (some 0))), some (.inl a0)]) (st1 := [.inl a0, .inr (.inr (some 2))]) rfl ?_
      refine X_pI rfl rfl rfl rfl ?_
      refine X_run 1 (i1 := 14) (L1 := [some (.inr (.inr (some 0))), some (.inl a0)]) (st1 := [.inl a0]) rfl ?_
      exact X_iret rfl rfl qIs_i
    · skip
      refine X_run 1 (i1 := 8) (L1 := [some (.inr (.inr (some 0))), some (.inl a0)]) (st1 := [.inl (-1 : Int32)]) rfl ?_
      exact X_iret rfl rfl qIs_i
def f_H_patch (fu : Nat) (s : St) (a0 : Int32) : Int32 × St := (cond (cn1 .lt a0) ((-1 : Int32), s) (cond (cn2 .lt a0 (16 : Int32)) (f_Pt_take fu (pI s 2 2 (0 : Int32)) a0 (sI s 2 2)) ((-1 : Int32), s)))
def w_H_patch (fu : Nat) (s : St) (a0 : Int32) : Prop := ((cn1 .lt a0) = true → True) ∧ ((cn1 .lt a0) = false → ((cn2 .lt a0 (16 : Int32)) = true → (w_Pt_take fu (pI s 2 2 (0 : Int32)) a0 (sI s 2 2) ∧ True)) ∧ ((cn2 .lt a0 (16 : Int32)) = false → True))
theorem c_H_patch {d : Nat} (fu : Nat) (s : St) (a0 : Int32) (hw : w_H_patch fu s a0) : X m_H_patch (d + 32) 0 (entL 3 [.inr (.inr (some 0)), .inl a0]) [] (hp s) (qIs (f_H_patch fu s a0)) := by
  unfold f_H_patch
  unfold w_H_patch at hw
  refine X_run 2 (i1 := cond (cn1 .lt a0) 5 2) (L1 := [some (.inr (.inr (some 0))), some (.inl a0), none]) (st1 := []) rfl ?_
  refine X_brq (fun hb => ?_) (fun hb => ?_)
  · skip
    refine X_run 1 (i1 := 6) (L1 := [some (.inr (.inr (some 0))), some (.inl a0), none]) (st1 := [.inl (-1 : Int32)]) rfl ?_
    exact X_iret rfl rfl qIs_i
  · have hw := hw.2 hb
    refine X_run 3 (i1 := cond (cn2 .lt a0 (16 : Int32)) 7 5) (L1 := [some (.inr (.inr (some 0))), some (.inl a0), none]) (st1 := []) rfl ?_
    refine X_brq (fun hb => ?_) (fun hb => ?_)
    · have hw := hw.1 hb
      refine X_run 1 (i1 := 8) (L1 := [some (.inr (.inr (some 0))), some (.inl a0), none]) (st1 := [.inr (.inr (some 0))]) rfl ?_
      refine X_gF (v := .inr (.inr (some 2))) rfl rfl rfl rfl ?_
      refine X_gF (v := .inl (sI s 2 2)) rfl rfl rfl rfl ?_
      refine X_run 2 (i1 := 12) (L1 := [some (.inr (.inr (some 0))), some (.inl a0), some (.inl (sI s 2 2))]) (st1 := [.inr (.inr (some 0))]) rfl ?_
      refine X_gF (v := .inr (.inr (some 2))) rfl rfl rfl rfl ?_
      refine X_run 1 (i1 := 14) (L1 := [some (.inr (.inr (some 0))), some (.inl a0), some (.inl (sI s 2 2))]) (st1 := [.inl (0 : Int32), .inr (.inr (some 2))]) rfl ?_
      refine X_pI rfl rfl rfl rfl ?_
      refine X_run 1 (i1 := 16) (L1 := [some (.inr (.inr (some 0))), some (.inl a0), some (.inl (sI s 2 2))]) (st1 := [.inr (.inr (some 0))]) rfl ?_
      refine X_gF (v := .inr (.inr (some 5))) rfl rfl rfl rfl ?_
      refine X_run 2 (i1 := 19) (L1 := [some (.inr (.inr (some 0))), some (.inl a0), some (.inl (sI s 2 2))]) (st1 := [.inr (.inr (some 0)), .inl a0, .inr (.inr (some 5))]) rfl ?_
      refine X_gF (v := .inr (.inr (some 2))) rfl rfl rfl rfl ?_
      refine X_gF (v := .inr (.inr (some 3))) rfl rfl rfl rfl ?_
      refine X_run 1 (i1 := 22) (L1 := [some (.inr (.inr (some 0))), some (.inl a0), some (.inl (sI s 2 2))]) (st1 := [.inl (sI s 2 2), .inr (.inr (some 3)), .inl a0, .inr (.inr (some 5))]) rfl ?_
      obtain ⟨hc, hw⟩ := hw
      refine X_callv m_Pt_take (As := [.inl a0, .inr (.inr (some 3)), .inl (sI s 2 2)]) (st := []) ok_Pt_take rfl rfl rfl (hp_obj rfl) rfl (Nat.le_of_ble_eq_true rfl) (Nat.le_of_ble_eq_true rfl) (c_Pt_take (d := d) fu (pI s 2 2 (0 : Int32)) a0 (sI s 2 2) hc) ?_
      rintro _ _ ⟨rfl, rfl⟩
      show X _ _ 23 [some (.inr (.inr (some 0))), some (.inl a0), some (.inl (sI s 2 2))] [.inl ((f_Pt_take fu (pI s 2 2 (0 : Int32)) a0 (sI s 2 2)).1)] (hp ((f_Pt_take fu (pI s 2 2 (0 : Int32)) a0 (sI s 2 2)).2)) _
      exact X_iret rfl rfl qIs_p
    · skip
      refine X_run 1 (i1 := 6) (L1 := [some (.inr (.inr (some 0))), some (.inl a0), none]) (st1 := [.inl (-1 : Int32)]) rfl ?_
      exact X_iret rfl rfl qIs_i
def t_H_load_28 (fu : Nat) (s : St) (v1 : Int32) (w0 : Option Nat) : Int32 × St := (cond (cn2 .ne (sI s 1 3) (3 : Int32)) (cond (cn2 .ne (sI s 1 3) (1 : Int32)) ((0 : Int32), pT s 11 (va_up (sT s 11) (Int32.toNatClampNeg v1) w0)) (sI s 1 4, s)) ((9 : Int32), s))
def w_H_load_28 (fu : Nat) (s : St) (v1 : Int32) (w0 : Option Nat) : Prop := ((cn2 .ne (sI s 1 3) (3 : Int32)) = true → ((cn2 .ne (sI s 1 3) (1 : Int32)) = true → (vp_in v1 16 ∧ (tho (sD s) w0 ∧ True))) ∧ ((cn2 .ne (sI s 1 3) (1 : Int32)) = false → True)) ∧ ((cn2 .ne (sI s 1 3) (3 : Int32)) = false → True)
theorem ct_H_load_28 {d : Nat} (fu : Nat) (s : St) (v1 : Int32) (w0 : Option Nat) (hw : w_H_load_28 fu s v1 w0) : X m_H_load (d + 103) 28 [some (.inr (.inr (some 0))), some (.inl v1), none, none] [.inr (.inr w0)] (hp s) (qIs (t_H_load_28 fu s v1 w0)) := by
  unfold t_H_load_28
  unfold w_H_load_28 at hw
  refine X_run 2 (i1 := 30) (L1 := [some (.inr (.inr (some 0))), some (.inl v1), none, some (.inr (.inr w0))]) (st1 := [.inr (.inr (some 0))]) rfl ?_
  refine X_gF (v := .inr (.inr (some 1))) rfl rfl rfl rfl ?_
  refine X_gF (v := .inl (sI s 1 3)) rfl rfl rfl rfl ?_
  refine X_run 2 (i1 := cond (cn2 .ne (sI s 1 3) (3 : Int32)) 36 34) (L1 := [some (.inr (.inr (some 0))), some (.inl v1), none, some (.inr (.inr w0))]) (st1 := []) rfl ?_
  refine X_brq (fun hb => ?_) (fun hb => ?_)
  · have hw := hw.1 hb
    refine X_run 1 (i1 := 37) (L1 := [some (.inr (.inr (some 0))), some (.inl v1), none, some (.inr (.inr w0))]) (st1 := [.inr (.inr (some 0))]) rfl ?_
    refine X_gF (v := .inr (.inr (some 1))) rfl rfl rfl rfl ?_
    refine X_gF (v := .inl (sI s 1 3)) rfl rfl rfl rfl ?_
    refine X_run 2 (i1 := cond (cn2 .ne (sI s 1 3) (1 : Int32)) 45 41) (L1 := [some (.inr (.inr (some 0))), some (.inl v1), none, some (.inr (.inr w0))]) (st1 := []) rfl ?_
    refine X_brq (fun hb => ?_) (fun hb => ?_)
    · have hw := hw.1 hb
      refine X_run 1 (i1 := 46) (L1 := [some (.inr (.inr (some 0))), some (.inl v1), none, some (.inr (.inr w0))]) (st1 := [.inr (.inr (some 0))]) rfl ?_
      refine X_gF (v := .inr (.inr (some 8))) rfl rfl rfl rfl ?_
      refine X_gF (v := .inr (.inr (some 11))) rfl rfl rfl rfl ?_
      refine X_run 2 (i1 := 50) (L1 := [some (.inr (.inr (some 0))), some (.inl v1), none, some (.inr (.inr w0))]) (st1 := [.inr (.inr w0), .inl v1, .inr (.inr (some 11))]) rfl ?_
      obtain ⟨hin, hw⟩ := hw
      obtain ⟨hv, hw⟩ := hw
      refine X_sRt rfl rfl hin hv ?_
      show X _ _ 51 [some (.inr (.inr (some 0))), some (.inl v1), none, some (.inr (.inr w0))] [] (hp (pT s 11 (va_up (sT s 11) (Int32.toNatClampNeg v1) w0))) _
      refine X_run 1 (i1 := 52) (L1 := [some (.inr (.inr (some 0))), some (.inl v1), none, some (.inr (.inr w0))]) (st1 := [.inl (0 : Int32)]) rfl ?_
      exact X_iret rfl rfl qIs_i
    · skip
      refine X_run 1 (i1 := 42) (L1 := [some (.inr (.inr (some 0))), some (.inl v1), none, some (.inr (.inr w0))]) (st1 := [.inr (.inr (some 0))]) rfl ?_
      refine X_gF (v := .inr (.inr (some 1))) rfl rfl rfl rfl ?_
      refine X_gF (v := .inl (sI s 1 4)) rfl rfl rfl rfl ?_
      exact X_iret rfl rfl qIs_i
  · skip
    refine X_run 1 (i1 := 35) (L1 := [some (.inr (.inr (some 0))), some (.inl v1), none, some (.inr (.inr w0))]) (st1 := [.inl (9 : Int32)]) rfl ?_
    exact X_iret rfl rfl qIs_i
def t_H_load_24 (fu : Nat) (s : St) (v1 : Int32) (v2 : Int32) : Int32 × St := (t_H_load_28 fu ((f_Fo_readTape fu s v2).2) v1 ((f_Fo_readTape fu s v2).1))
def w_H_load_24 (fu : Nat) (s : St) (v1 : Int32) (v2 : Int32) : Prop := (w_Fo_readTape fu s v2 ∧ (w_H_load_28 fu ((f_Fo_readTape fu s v2).2) v1 ((f_Fo_readTape fu s v2).1)))
theorem ct_H_load_24 {d : Nat} (fu : Nat) (s : St) (v1 : Int32) (v2 : Int32) (hw : w_H_load_24 fu s v1 v2) : X m_H_load (d + 103) 24 [some (.inr (.inr (some 0))), some (.inl v1), some (.inl v2), none] [] (hp s) (qIs (t_H_load_24 fu s v1 v2)) := by
  unfold t_H_load_24
  unfold w_H_load_24 at hw
  refine X_run 1 (i1 := 25) (L1 := [some (.inr (.inr (some 0))), some (.inl v1), some (.inl v2), none]) (st1 := [.inr (.inr (some 0))]) rfl ?_
  refine X_gF (v := .inr (.inr (some 2))) rfl rfl rfl rfl ?_
  refine X_run 1 (i1 := 27) (L1 := [some (.inr (.inr (some 0))), some (.inl v1), some (.inl v2), none]) (st1 := [.inl v2, .inr (.inr (some 2))]) rfl ?_
  obtain ⟨hc, hw⟩ := hw
  refine X_callv m_Fo_readTape (As := [.inl v2]) (st := []) ok_Fo_readTape rfl rfl rfl (hp_obj rfl) rfl (Nat.le_of_ble_eq_true rfl) (Nat.le_of_ble_eq_true rfl) (c_Fo_readTape (d := d) fu s v2 hc) ?_
  rintro _ _ ⟨rfl, rfl⟩
  show X _ _ 28 [some (.inr (.inr (some 0))), some (.inl v1), some (.inl v2), none] [.inr (.inr ((f_Fo_readTape fu s v2).1))] (hp ((f_Fo_readTape fu s v2).2)) _
  show X _ _ 28 [some (.inr (.inr (some 0))), some (.inl v1), some (.inl v2), none] [.inr (.inr ((f_Fo_readTape fu s v2).1))] (hp ((f_Fo_readTape fu s v2).2)) _
  refine X_mask [true, true, false, true] ?_
  exact ct_H_load_28 fu ((f_Fo_readTape fu s v2).2) v1 ((f_Fo_readTape fu s v2).1) hw
def f_H_load (fu : Nat) (s : St) (a0 : Int32) : Int32 × St := (cond (cn1 .lt a0) ((-1 : Int32), s) (cond (cn2 .lt a0 (16 : Int32)) (cond (cn1 .eq (sI s 1 1)) (t_H_load_24 fu (f_Le_settle (pI s 2 2 (0 : Int32))) a0 (sI s 2 2)) ((9 : Int32), pI s 2 2 (0 : Int32))) ((-1 : Int32), s)))
def w_H_load (fu : Nat) (s : St) (a0 : Int32) : Prop := ((cn1 .lt a0) = true → True) ∧ ((cn1 .lt a0) = false → ((cn2 .lt a0 (16 : Int32)) = true → ((cn1 .eq (sI s 1 1)) = true → (w_Le_settle (pI s 2 2 (0 : Int32)) ∧ (w_H_load_24 fu (f_Le_settle (pI s 2 2 (0 : Int32))) a0 (sI s 2 2)))) ∧ ((cn1 .eq (sI s 1 1)) = false → True)) ∧ ((cn2 .lt a0 (16 : Int32)) = false → True))
theorem c_H_load {d : Nat} (fu : Nat) (s : St) (a0 : Int32) (hw : w_H_load fu s a0) : X m_H_load (d + 103) 0 (entL 4 [.inr (.inr (some 0)), .inl a0]) [] (hp s) (qIs (f_H_load fu s a0)) := by
  unfold f_H_load
  unfold w_H_load at hw
  refine X_run 2 (i1 := cond (cn1 .lt a0) 5 2) (L1 := [some (.inr (.inr (some 0))), some (.inl a0), none, none]) (st1 := []) rfl ?_
  refine X_brq (fun hb => ?_) (fun hb => ?_)
  · skip
    refine X_run 1 (i1 := 6) (L1 := [some (.inr (.inr (some 0))), some (.inl a0), none, none]) (st1 := [.inl (-1 : Int32)]) rfl ?_
    exact X_iret rfl rfl qIs_i
  · have hw := hw.2 hb
    refine X_run 3 (i1 := cond (cn2 .lt a0 (16 : Int32)) 7 5) (L1 := [some (.inr (.inr (some 0))), some (.inl a0), none, none]) (st1 := []) rfl ?_
    refine X_brq (fun hb => ?_) (fun hb => ?_)
    · have hw := hw.1 hb
      refine X_run 1 (i1 := 8) (L1 := [some (.inr (.inr (some 0))), some (.inl a0), none, none]) (st1 := [.inr (.inr (some 0))]) rfl ?_
      refine X_gF (v := .inr (.inr (some 2))) rfl rfl rfl rfl ?_
      refine X_gF (v := .inl (sI s 2 2)) rfl rfl rfl rfl ?_
      refine X_run 2 (i1 := 12) (L1 := [some (.inr (.inr (some 0))), some (.inl a0), some (.inl (sI s 2 2)), none]) (st1 := [.inr (.inr (some 0))]) rfl ?_
      refine X_gF (v := .inr (.inr (some 2))) rfl rfl rfl rfl ?_
      refine X_run 1 (i1 := 14) (L1 := [some (.inr (.inr (some 0))), some (.inl a0), some (.inl (sI s 2 2)), none]) (st1 := [.inl (0 : Int32), .inr (.inr (some 2))]) rfl ?_
      refine X_pI rfl rfl rfl rfl ?_
      refine X_run 1 (i1 := 16) (L1 := [some (.inr (.inr (some 0))), some (.inl a0), some (.inl (sI s 2 2)), none]) (st1 := [.inr (.inr (some 0))]) rfl ?_
      refine X_gF (v := .inr (.inr (some 1))) rfl rfl rfl rfl ?_
      refine X_gF (v := .inl (sI s 1 1)) rfl rfl rfl rfl ?_
      refine X_run 1 (i1 := cond (cn1 .eq (sI s 1 1)) 21 19) (L1 := [some (.inr (.inr (some 0))), some (.inl a0), some (.inl (sI s 2 2)), none]) (st1 := []) rfl ?_
      refine X_brq (fun hb => ?_) (fun hb => ?_)
      · have hw := hw.1 hb
        refine X_run 1 (i1 := 22) (L1 := [some (.inr (.inr (some 0))), some (.inl a0), some (.inl (sI s 2 2)), none]) (st1 := [.inr (.inr (some 0))]) rfl ?_
        refine X_gF (v := .inr (.inr (some 1))) rfl rfl rfl rfl ?_
        obtain ⟨hc, hw⟩ := hw
        refine X_callv m_Le_settle (As := []) (st := []) ok_Le_settle rfl rfl rfl (hp_obj rfl) rfl (Nat.le_of_ble_eq_true rfl) (Nat.le_of_ble_eq_true rfl) (c_Le_settle (d := d + 102) (pI s 2 2 (0 : Int32)) hc) ?_
        rintro _ _ ⟨rfl, rfl⟩
        show X _ _ 24 [some (.inr (.inr (some 0))), some (.inl a0), some (.inl (sI s 2 2)), none] [] (hp (f_Le_settle (pI s 2 2 (0 : Int32)))) _
        show X _ _ 24 [some (.inr (.inr (some 0))), some (.inl a0), some (.inl (sI s 2 2)), none] [] (hp (f_Le_settle (pI s 2 2 (0 : Int32)))) _
        exact ct_H_load_24 fu (f_Le_settle (pI s 2 2 (0 : Int32))) a0 (sI s 2 2) hw
      · skip
        refine X_run 1 (i1 := 20) (L1 := [some (.inr (.inr (some 0))), some (.inl a0), some (.inl (sI s 2 2)), none]) (st1 := [.inl (9 : Int32)]) rfl ?_
        exact X_iret rfl rfl qIs_i
    · skip
      refine X_run 1 (i1 := 6) (L1 := [some (.inr (.inr (some 0))), some (.inl a0), none, none]) (st1 := [.inl (-1 : Int32)]) rfl ?_
      exact X_iret rfl rfl qIs_i
def f_H_save (fu : Nat) (s : St) (a0 : Int32) : Int32 × St := (cond (cn1 .lt a0) ((-1 : Int32), s) (cond (cn2 .lt a0 (16 : Int32)) (f_Fo_writeOut fu s (sT s 11 (Int32.toNatClampNeg a0))) ((-1 : Int32), s)))
def w_H_save (fu : Nat) (s : St) (a0 : Int32) : Prop := ((cn1 .lt a0) = true → True) ∧ ((cn1 .lt a0) = false → ((cn2 .lt a0 (16 : Int32)) = true → (vp_in a0 16 ∧ (w_Fo_writeOut fu s (sT s 11 (Int32.toNatClampNeg a0)) ∧ True))) ∧ ((cn2 .lt a0 (16 : Int32)) = false → True))
theorem c_H_save {d : Nat} (fu : Nat) (s : St) (a0 : Int32) (hw : w_H_save fu s a0) : X m_H_save (d + 68) 0 (entL 2 [.inr (.inr (some 0)), .inl a0]) [] (hp s) (qIs (f_H_save fu s a0)) := by
  unfold f_H_save
  unfold w_H_save at hw
  refine X_run 2 (i1 := cond (cn1 .lt a0) 5 2) (L1 := [some (.inr (.inr (some 0))), some (.inl a0)]) (st1 := []) rfl ?_
  refine X_brq (fun hb => ?_) (fun hb => ?_)
  · skip
    refine X_run 1 (i1 := 6) (L1 := [some (.inr (.inr (some 0))), some (.inl a0)]) (st1 := [.inl (-1 : Int32)]) rfl ?_
    exact X_iret rfl rfl qIs_i
  · have hw := hw.2 hb
    refine X_run 3 (i1 := cond (cn2 .lt a0 (16 : Int32)) 7 5) (L1 := [some (.inr (.inr (some 0))), some (.inl a0)]) (st1 := []) rfl ?_
    refine X_brq (fun hb => ?_) (fun hb => ?_)
    · have hw := hw.1 hb
      refine X_run 1 (i1 := 8) (L1 := [some (.inr (.inr (some 0))), some (.inl a0)]) (st1 := [.inr (.inr (some 0))]) rfl ?_
      refine X_gF (v := .inr (.inr (some 2))) rfl rfl rfl rfl ?_
      refine X_run 1 (i1 := 10) (L1 := [some (.inr (.inr (some 0))), some (.inl a0)]) (st1 := [.inr (.inr (some 0)), .inr (.inr (some 2))]) rfl ?_
      refine X_gF (v := .inr (.inr (some 8))) rfl rfl rfl rfl ?_
      refine X_gF (v := .inr (.inr (some 11))) rfl rfl rfl rfl ?_
      refine X_run 1 (i1 := 13) (L1 := [some (.inr (.inr (some 0))), some (.inl a0)]) (st1 := [.inl a0, .inr (.inr (some 11)), .inr (.inr (some 2))]) rfl ?_
      obtain ⟨hin, hw⟩ := hw
      refine X_aR rfl rfl hin ?_
      show X _ _ 14 [some (.inr (.inr (some 0))), some (.inl a0)] [.inr (.inr (sT s 11 (Int32.toNatClampNeg a0))), .inr (.inr (some 2))] (hp s) _
      obtain ⟨hc, hw⟩ := hw
      refine X_callv m_Fo_writeOut (As := [.inr (.inr (sT s 11 (Int32.toNatClampNeg a0)))]) (st := []) ok_Fo_writeOut rfl rfl rfl (hp_obj rfl) rfl (Nat.le_of_ble_eq_true rfl) (Nat.le_of_ble_eq_true rfl) (c_Fo_writeOut (d := d) fu s (sT s 11 (Int32.toNatClampNeg a0)) hc) ?_
      rintro _ _ ⟨rfl, rfl⟩
      show X _ _ 15 [some (.inr (.inr (some 0))), some (.inl a0)] [.inl ((f_Fo_writeOut fu s (sT s 11 (Int32.toNatClampNeg a0))).1)] (hp ((f_Fo_writeOut fu s (sT s 11 (Int32.toNatClampNeg a0))).2)) _
      exact X_iret rfl rfl qIs_p
    · skip
      refine X_run 1 (i1 := 6) (L1 := [some (.inr (.inr (some 0))), some (.inl a0)]) (st1 := [.inl (-1 : Int32)]) rfl ?_
      exact X_iret rfl rfl qIs_i
def t_H_run_29 (fu : Nat) (s : St) (w0 : Int32) : Int32 × St := (w0, pI (pI (pI s 0 5 (sI s 1 4)) 0 6 (sI s 1 5)) 0 7 (sI s 1 2))
def w_H_run_29 (fu : Nat) (s : St) (w0 : Int32) : Prop := True
theorem ct_H_run_29 {d : Nat} (fu : Nat) (s : St) (w0 : Int32) (hw : w_H_run_29 fu s w0) : X m_H_run (d + 40) 29 [some (.inr (.inr (some 0))), none, none, none] [.inl w0] (hp s) (qIs (t_H_run_29 fu s w0)) := by
  unfold t_H_run_29
  unfold w_H_run_29 at hw
  refine X_run 3 (i1 := 32) (L1 := [some (.inr (.inr (some 0))), none, none, some (.inl w0)]) (st1 := [.inr (.inr (some 0)), .inr (.inr (some 0))]) rfl ?_
  refine X_gF (v := .inr (.inr (some 1))) rfl rfl rfl rfl ?_
  refine X_gF (v := .inl (sI s 1 4)) rfl rfl rfl rfl ?_
  refine X_pI rfl rfl rfl rfl ?_
  refine X_run 2 (i1 := 37) (L1 := [some (.inr (.inr (some 0))), none, none, some (.inl w0)]) (st1 := [.inr (.inr (some 0)), .inr (.inr (some 0))]) rfl ?_
  refine X_gF (v := .inr (.inr (some 1))) rfl rfl rfl rfl ?_
  refine X_gF (v := .inl (sI s 1 5)) rfl rfl rfl rfl ?_
  refine X_pI rfl rfl rfl rfl ?_
  refine X_run 2 (i1 := 42) (L1 := [some (.inr (.inr (some 0))), none, none, some (.inl w0)]) (st1 := [.inr (.inr (some 0)), .inr (.inr (some 0))]) rfl ?_
  refine X_gF (v := .inr (.inr (some 1))) rfl rfl rfl rfl ?_
  refine X_gF (v := .inl (sI s 1 2)) rfl rfl rfl rfl ?_
  refine X_pI rfl rfl rfl rfl ?_
  refine X_run 1 (i1 := 46) (L1 := [some (.inr (.inr (some 0))), none, none, some (.inl w0)]) (st1 := [.inl w0]) rfl ?_
  exact X_iret rfl rfl qIs_i
def t_H_run_15 (fu : Nat) (s : St) (v1 : Int32) (v2 : Int32) : Int32 × St := (cond (cn1 .eq (sI s 1 1)) (t_H_run_29 fu ((f_En_perform fu (pI s 1 2 v2) v1).2) ((f_En_perform fu (pI s 1 2 v2) v1).1)) (t_H_run_29 fu (pI s 1 2 v2) (3 : Int32)))
def w_H_run_15 (fu : Nat) (s : St) (v1 : Int32) (v2 : Int32) : Prop := ((cn1 .eq (sI s 1 1)) = true → (w_En_perform fu (pI s 1 2 v2) v1 ∧ (w_H_run_29 fu ((f_En_perform fu (pI s 1 2 v2) v1).2) ((f_En_perform fu (pI s 1 2 v2) v1).1)))) ∧ ((cn1 .eq (sI s 1 1)) = false → (w_H_run_29 fu (pI s 1 2 v2) (3 : Int32)))
theorem ct_H_run_15 {d : Nat} (fu : Nat) (s : St) (v1 : Int32) (v2 : Int32) (hw : w_H_run_15 fu s v1 v2) : X m_H_run (d + 40) 15 [some (.inr (.inr (some 0))), some (.inl v1), some (.inl v2), none] [] (hp s) (qIs (t_H_run_15 fu s v1 v2)) := by
  unfold t_H_run_15
  unfold w_H_run_15 at hw
  refine X_run 1 (i1 := 16) (L1 := [some (.inr (.inr (some 0))), some (.inl v1), some (.inl v2), none]) (st1 := [.inr (.inr (some 0))]) rfl ?_
  refine X_gF (v := .inr (.inr (some 1))) rfl rfl rfl rfl ?_
  refine X_run 1 (i1 := 18) (L1 := [some (.inr (.inr (some 0))), some (.inl v1), some (.inl v2), none]) (st1 := [.inl v2, .inr (.inr (some 1))]) rfl ?_
  refine X_pI rfl rfl rfl rfl ?_
  refine X_run 1 (i1 := 20) (L1 := [some (.inr (.inr (some 0))), some (.inl v1), some (.inl v2), none]) (st1 := [.inr (.inr (some 0))]) rfl ?_
  refine X_gF (v := .inr (.inr (some 1))) rfl rfl rfl rfl ?_
  refine X_gF (v := .inl (sI s 1 1)) rfl rfl rfl rfl ?_
  refine X_run 1 (i1 := cond (cn1 .eq (sI s 1 1)) 25 23) (L1 := [some (.inr (.inr (some 0))), some (.inl v1), some (.inl v2), none]) (st1 := []) rfl ?_
  refine X_brq (fun hb => ?_) (fun hb => ?_)
  · have hw := hw.1 hb
    refine X_run 1 (i1 := 26) (L1 := [some (.inr (.inr (some 0))), some (.inl v1), some (.inl v2), none]) (st1 := [.inr (.inr (some 0))]) rfl ?_
    refine X_gF (v := .inr (.inr (some 12))) rfl rfl rfl rfl ?_
    refine X_run 1 (i1 := 28) (L1 := [some (.inr (.inr (some 0))), some (.inl v1), some (.inl v2), none]) (st1 := [.inl v1, .inr (.inr (some 12))]) rfl ?_
    obtain ⟨hc, hw⟩ := hw
    refine X_callv m_En_perform (As := [.inl v1]) (st := []) ok_En_perform rfl rfl rfl (hp_obj rfl) rfl (Nat.le_of_ble_eq_true rfl) (Nat.le_of_ble_eq_true rfl) (c_En_perform (d := d) fu (pI s 1 2 v2) v1 hc) ?_
    rintro _ _ ⟨rfl, rfl⟩
    show X _ _ 29 [some (.inr (.inr (some 0))), some (.inl v1), some (.inl v2), none] [.inl ((f_En_perform fu (pI s 1 2 v2) v1).1)] (hp ((f_En_perform fu (pI s 1 2 v2) v1).2)) _
    show X _ _ 29 [some (.inr (.inr (some 0))), some (.inl v1), some (.inl v2), none] [.inl ((f_En_perform fu (pI s 1 2 v2) v1).1)] (hp ((f_En_perform fu (pI s 1 2 v2) v1).2)) _
    refine X_mask [true, false, false, true] ?_
    exact ct_H_run_29 fu ((f_En_perform fu (pI s 1 2 v2) v1).2) ((f_En_perform fu (pI s 1 2 v2) v1).1) hw
  · have hw := hw.2 hb
    refine X_run 2 (i1 := 29) (L1 := [some (.inr (.inr (some 0))), some (.inl v1), some (.inl v2), none]) (st1 := [.inl (3 : Int32)]) rfl ?_
    refine X_mask [true, false, false, true] ?_
    exact ct_H_run_29 fu (pI s 1 2 v2) (3 : Int32) hw
def f_H_run (fu : Nat) (s : St) (a0 : Int32) (a1 : Int32) : Int32 × St := (cond (cn1 .lt a0) ((-1 : Int32), s) (cond (cn2 .ge a0 (16 : Int32)) ((-1 : Int32), s) (cond (cn1 .lt a1) ((-1 : Int32), s) (cond (cn2 .le a1 (20000 : Int32)) (t_H_run_15 fu (f_Le_settle s) a0 a1) ((-1 : Int32), s)))))
def w_H_run (fu : Nat) (s : St) (a0 : Int32) (a1 : Int32) : Prop := ((cn1 .lt a0) = true → True) ∧ ((cn1 .lt a0) = false → ((cn2 .ge a0 (16 : Int32)) = true → True) ∧ ((cn2 .ge a0 (16 : Int32)) = false → ((cn1 .lt a1) = true → True) ∧ ((cn1 .lt a1) = false → ((cn2 .le a1 (20000 : Int32)) = true → (w_Le_settle s ∧ (w_H_run_15 fu (f_Le_settle s) a0 a1))) ∧ ((cn2 .le a1 (20000 : Int32)) = false → True))))
theorem c_H_run {d : Nat} (fu : Nat) (s : St) (a0 : Int32) (a1 : Int32) (hw : w_H_run fu s a0 a1) : X m_H_run (d + 40) 0 (entL 4 [.inr (.inr (some 0)), .inl a0, .inl a1]) [] (hp s) (qIs (f_H_run fu s a0 a1)) := by
  unfold f_H_run
  unfold w_H_run at hw
  refine X_run 2 (i1 := cond (cn1 .lt a0) 10 2) (L1 := [some (.inr (.inr (some 0))), some (.inl a0), some (.inl a1), none]) (st1 := []) rfl ?_
  refine X_brq (fun hb => ?_) (fun hb => ?_)
  · skip
    refine X_run 1 (i1 := 11) (L1 := [some (.inr (.inr (some 0))), some (.inl a0), some (.inl a1), none]) (st1 := [.inl (-1 : Int32)]) rfl ?_
    exact X_iret rfl rfl qIs_i
  · have hw := hw.2 hb
    refine X_run 3 (i1 := cond (cn2 .ge a0 (16 : Int32)) 10 5) (L1 := [some (.inr (.inr (some 0))), some (.inl a0), some (.inl a1), none]) (st1 := []) rfl ?_
    refine X_brq (fun hb => ?_) (fun hb => ?_)
    · skip
      refine X_run 1 (i1 := 11) (L1 := [some (.inr (.inr (some 0))), some (.inl a0), some (.inl a1), none]) (st1 := [.inl (-1 : Int32)]) rfl ?_
      exact X_iret rfl rfl qIs_i
    · have hw := hw.2 hb
      refine X_run 2 (i1 := cond (cn1 .lt a1) 10 7) (L1 := [some (.inr (.inr (some 0))), some (.inl a0), some (.inl a1), none]) (st1 := []) rfl ?_
      refine X_brq (fun hb => ?_) (fun hb => ?_)
      · skip
        refine X_run 1 (i1 := 11) (L1 := [some (.inr (.inr (some 0))), some (.inl a0), some (.inl a1), none]) (st1 := [.inl (-1 : Int32)]) rfl ?_
        exact X_iret rfl rfl qIs_i
      · have hw := hw.2 hb
        refine X_run 3 (i1 := cond (cn2 .le a1 (20000 : Int32)) 12 10) (L1 := [some (.inr (.inr (some 0))), some (.inl a0), some (.inl a1), none]) (st1 := []) rfl ?_
        refine X_brq (fun hb => ?_) (fun hb => ?_)
        · have hw := hw.1 hb
          refine X_run 1 (i1 := 13) (L1 := [some (.inr (.inr (some 0))), some (.inl a0), some (.inl a1), none]) (st1 := [.inr (.inr (some 0))]) rfl ?_
          refine X_gF (v := .inr (.inr (some 1))) rfl rfl rfl rfl ?_
          obtain ⟨hc, hw⟩ := hw
          refine X_callv m_Le_settle (As := []) (st := []) ok_Le_settle rfl rfl rfl (hp_obj rfl) rfl (Nat.le_of_ble_eq_true rfl) (Nat.le_of_ble_eq_true rfl) (c_Le_settle (d := d + 39) s hc) ?_
          rintro _ _ ⟨rfl, rfl⟩
          show X _ _ 15 [some (.inr (.inr (some 0))), some (.inl a0), some (.inl a1), none] [] (hp (f_Le_settle s)) _
          show X _ _ 15 [some (.inr (.inr (some 0))), some (.inl a0), some (.inl a1), none] [] (hp (f_Le_settle s)) _
          exact ct_H_run_15 fu (f_Le_settle s) a0 a1 hw
        · skip
          refine X_run 1 (i1 := 11) (L1 := [some (.inr (.inr (some 0))), some (.inl a0), some (.inl a1), none]) (st1 := [.inl (-1 : Int32)]) rfl ?_
          exact X_iret rfl rfl qIs_i
def f_H_look (s : St) (a0 : Int32) : Int32 := (if a0 = (0 : Int32) then (sI s 0 5) else (if a0 = (1 : Int32) then (sI s 0 6) else (if a0 = (2 : Int32) then (sI s 0 7) else (if a0 = (3 : Int32) then (sI s 1 0) else (if a0 = (4 : Int32) then (sI s 2 2) else (if a0 = (5 : Int32) then (sI s 2 3) else (if a0 = (6 : Int32) then (cond (cn1 .eq (sI s 1 1)) (0 : Int32) (1 : Int32)) else (cond (cn2 .lt a0 (7 : Int32)) (-1 : Int32) (cond (cn2 .ge a0 (23 : Int32)) (-1 : Int32) (sA s 7 (Int32.toNatClampNeg (a0 - (7 : Int32)))))))))))))
def w_H_look (s : St) (a0 : Int32) : Prop := ((a0 = (0 : Int32) → True) ∧ (¬ a0 = (0 : Int32) → ((a0 = (1 : Int32) → True) ∧ (¬ a0 = (1 : Int32) → ((a0 = (2 : Int32) → True) ∧ (¬ a0 = (2 : Int32) → ((a0 = (3 : Int32) → True) ∧ (¬ a0 = (3 : Int32) → ((a0 = (4 : Int32) → True) ∧ (¬ a0 = (4 : Int32) → ((a0 = (5 : Int32) → True) ∧ (¬ a0 = (5 : Int32) → ((a0 = (6 : Int32) → True) ∧ (¬ a0 = (6 : Int32) → ((cn2 .lt a0 (7 : Int32)) = true → True) ∧ ((cn2 .lt a0 (7 : Int32)) = false → ((cn2 .ge a0 (23 : Int32)) = true → True) ∧ ((cn2 .ge a0 (23 : Int32)) = false → (vp_in (a0 - (7 : Int32)) 16 ∧ True)))))))))))))))))
theorem c_H_look {d : Nat} (s : St) (a0 : Int32) (hw : w_H_look s a0) : X m_H_look (d) 0 (entL 2 [.inr (.inr (some 0)), .inl a0]) [] (hp s) (qI (hp s) (f_H_look s a0)) := by
  unfold f_H_look
  unfold w_H_look at hw
  refine X_run 1 (i1 := 1) (L1 := [some (.inr (.inr (some 0))), some (.inl a0)]) (st1 := [.inl a0]) rfl ?_
  refine X_itq (fun h => ?_) (fun h1_0 => ?_)
  · refine X_tsk rfl h rfl ?_
    refine X_run 1 (i1 := 3) (L1 := [some (.inr (.inr (some 0))), some (.inl a0)]) (st1 := [.inr (.inr (some 0))]) rfl ?_
    refine X_gF (v := .inl (sI s 0 5)) rfl rfl rfl rfl ?_
    exact X_iret rfl rfl qI_i
  have hw := hw.2 h1_0
  refine X_itq (fun h => ?_) (fun h1_1 => ?_)
  · refine X_tsk rfl h rfl ?_
    refine X_run 1 (i1 := 6) (L1 := [some (.inr (.inr (some 0))), some (.inl a0)]) (st1 := [.inr (.inr (some 0))]) rfl ?_
    refine X_gF (v := .inl (sI s 0 6)) rfl rfl rfl rfl ?_
    exact X_iret rfl rfl qI_i
  have hw := hw.2 h1_1
  refine X_itq (fun h => ?_) (fun h1_2 => ?_)
  · refine X_tsk rfl h rfl ?_
    refine X_run 1 (i1 := 9) (L1 := [some (.inr (.inr (some 0))), some (.inl a0)]) (st1 := [.inr (.inr (some 0))]) rfl ?_
    refine X_gF (v := .inl (sI s 0 7)) rfl rfl rfl rfl ?_
    exact X_iret rfl rfl qI_i
  have hw := hw.2 h1_2
  refine X_itq (fun h => ?_) (fun h1_3 => ?_)
  · refine X_tsk rfl h rfl ?_
    refine X_run 1 (i1 := 12) (L1 := [some (.inr (.inr (some 0))), some (.inl a0)]) (st1 := [.inr (.inr (some 0))]) rfl ?_
    refine X_gF (v := .inr (.inr (some 1))) rfl rfl rfl rfl ?_
    refine X_gF (v := .inl (sI s 1 0)) rfl rfl rfl rfl ?_
    exact X_iret rfl rfl qI_i
  have hw := hw.2 h1_3
  refine X_itq (fun h => ?_) (fun h1_4 => ?_)
  · refine X_tsk rfl h rfl ?_
    refine X_run 1 (i1 := 16) (L1 := [some (.inr (.inr (some 0))), some (.inl a0)]) (st1 := [.inr (.inr (some 0))]) rfl ?_
    refine X_gF (v := .inr (.inr (some 2))) rfl rfl rfl rfl ?_
    refine X_gF (v := .inl (sI s 2 2)) rfl rfl rfl rfl ?_
    exact X_iret rfl rfl qI_i
  have hw := hw.2 h1_4
  refine X_itq (fun h => ?_) (fun h1_5 => ?_)
  · refine X_tsk rfl h rfl ?_
    refine X_run 1 (i1 := 20) (L1 := [some (.inr (.inr (some 0))), some (.inl a0)]) (st1 := [.inr (.inr (some 0))]) rfl ?_
    refine X_gF (v := .inr (.inr (some 2))) rfl rfl rfl rfl ?_
    refine X_gF (v := .inl (sI s 2 3)) rfl rfl rfl rfl ?_
    exact X_iret rfl rfl qI_i
  have hw := hw.2 h1_5
  refine X_itq (fun h => ?_) (fun h1_6 => ?_)
  · refine X_tsk rfl h rfl ?_
    refine X_run 1 (i1 := 24) (L1 := [some (.inr (.inr (some 0))), some (.inl a0)]) (st1 := [.inr (.inr (some 0))]) rfl ?_
    refine X_gF (v := .inr (.inr (some 1))) rfl rfl rfl rfl ?_
    refine X_gF (v := .inl (sI s 1 1)) rfl rfl rfl rfl ?_
    refine X_run 1 (i1 := cond (cn1 .eq (sI s 1 1)) 29 27) (L1 := [some (.inr (.inr (some 0))), some (.inl a0)]) (st1 := []) rfl ?_
    refine X_brq (fun hb => ?_) (fun hb => ?_)
    · skip
      refine X_run 1 (i1 := 30) (L1 := [some (.inr (.inr (some 0))), some (.inl a0)]) (st1 := [.inl (0 : Int32)]) rfl ?_
      exact X_iret rfl rfl qI_i
    · skip
      refine X_run 2 (i1 := 30) (L1 := [some (.inr (.inr (some 0))), some (.inl a0)]) (st1 := [.inl (1 : Int32)]) rfl ?_
      exact X_iret rfl rfl qI_i
  have hw := hw.2 h1_6
  refine X_tsd rfl ((sw_out (0) 7 (by decide) (by decide) (fun j hj => by
    match j, hj with
    | 0, _ => exact h1_0
    | 1, _ => exact h1_1
    | 2, _ => exact h1_2
    | 3, _ => exact h1_3
    | 4, _ => exact h1_4
    | 5, _ => exact h1_5
    | 6, _ => exact h1_6
    | j + 7, hj => exact absurd hj (by omega))).imp id (fun h => by omega)) ?_
  refine X_run 3 (i1 := cond (cn2 .lt a0 (7 : Int32)) 45 34) (L1 := [some (.inr (.inr (some 0))), some (.inl a0)]) (st1 := []) rfl ?_
  refine X_brq (fun hb => ?_) (fun hb => ?_)
  · skip
    refine X_run 1 (i1 := 46) (L1 := [some (.inr (.inr (some 0))), some (.inl a0)]) (st1 := [.inl (-1 : Int32)]) rfl ?_
    exact X_iret rfl rfl qI_i
  · have hw := hw.2 hb
    refine X_run 3 (i1 := cond (cn2 .ge a0 (23 : Int32)) 45 37) (L1 := [some (.inr (.inr (some 0))), some (.inl a0)]) (st1 := []) rfl ?_
    refine X_brq (fun hb => ?_) (fun hb => ?_)
    · skip
      refine X_run 1 (i1 := 46) (L1 := [some (.inr (.inr (some 0))), some (.inl a0)]) (st1 := [.inl (-1 : Int32)]) rfl ?_
      exact X_iret rfl rfl qI_i
    · have hw := hw.2 hb
      refine X_run 1 (i1 := 38) (L1 := [some (.inr (.inr (some 0))), some (.inl a0)]) (st1 := [.inr (.inr (some 0))]) rfl ?_
      refine X_gF (v := .inr (.inr (some 5))) rfl rfl rfl rfl ?_
      refine X_gF (v := .inr (.inr (some 7))) rfl rfl rfl rfl ?_
      refine X_run 3 (i1 := 43) (L1 := [some (.inr (.inr (some 0))), some (.inl a0)]) (st1 := [.inl (a0 - (7 : Int32)), .inr (.inr (some 7))]) rfl ?_
      obtain ⟨hin, hw⟩ := hw
      refine X_aI rfl rfl hin ?_
      show X _ _ 44 [some (.inr (.inr (some 0))), some (.inl a0)] [.inl (sA s 7 (Int32.toNatClampNeg (a0 - (7 : Int32))))] (hp s) _
      refine X_run 1 (i1 := 46) (L1 := [some (.inr (.inr (some 0))), some (.inl a0)]) (st1 := [.inl (sA s 7 (Int32.toNatClampNeg (a0 - (7 : Int32))))]) rfl ?_
      exact X_iret rfl rfl qI_i
def f_H_slot (s : St) (a0 : Int32) (a1 : Int32) : Int32 := (cond (cn1 .lt a0) (-1 : Int32) (cond (cn2 .lt a0 (16 : Int32)) (cond (cn1 .ne a1) (cond (cn2 .ne a1 (1 : Int32)) (cond (cn2 .ne a1 (2 : Int32)) (-1 : Int32) (cond (cn1 .eq (b2i (isc (sD s) (sT s 11 (Int32.toNatClampNeg a0)) 2))) (-1 : Int32) (gI (sD s) (sT s 11 (Int32.toNatClampNeg a0)) 0))) (cond (Option.isNone (sT s 11 (Int32.toNatClampNeg a0))) (-1 : Int32) (u_size s (sT s 11 (Int32.toNatClampNeg a0))))) (cond (Option.isNone (sT s 11 (Int32.toNatClampNeg a0))) (0 : Int32) (u_kind s (sT s 11 (Int32.toNatClampNeg a0))))) (-1 : Int32)))
def w_H_slot (s : St) (a0 : Int32) (a1 : Int32) : Prop := ((cn1 .lt a0) = true → True) ∧ ((cn1 .lt a0) = false → ((cn2 .lt a0 (16 : Int32)) = true → (vp_in a0 16 ∧ ((cn1 .ne a1) = true → ((cn2 .ne a1 (1 : Int32)) = true → ((cn2 .ne a1 (2 : Int32)) = true → True) ∧ ((cn2 .ne a1 (2 : Int32)) = false → (tho (sD s) (sT s 11 (Int32.toNatClampNeg a0)) ∧ ((cn1 .eq (b2i (isc (sD s) (sT s 11 (Int32.toNatClampNeg a0)) 2))) = true → True) ∧ ((cn1 .eq (b2i (isc (sD s) (sT s 11 (Int32.toNatClampNeg a0)) 2))) = false → (cst (sD s) (sT s 11 (Int32.toNatClampNeg a0)) 2 ∧ (ob (sD s) (sT s 11 (Int32.toNatClampNeg a0)) 7 ∧ True)))))) ∧ ((cn2 .ne a1 (1 : Int32)) = false → ((Option.isNone (sT s 11 (Int32.toNatClampNeg a0))) = true → True) ∧ ((Option.isNone (sT s 11 (Int32.toNatClampNeg a0))) = false → (wu_size s (sT s 11 (Int32.toNatClampNeg a0)) ∧ True)))) ∧ ((cn1 .ne a1) = false → ((Option.isNone (sT s 11 (Int32.toNatClampNeg a0))) = true → True) ∧ ((Option.isNone (sT s 11 (Int32.toNatClampNeg a0))) = false → (wu_kind s (sT s 11 (Int32.toNatClampNeg a0)) ∧ True))))) ∧ ((cn2 .lt a0 (16 : Int32)) = false → True))
theorem c_H_slot {d : Nat} (s : St) (a0 : Int32) (a1 : Int32) (hw : w_H_slot s a0 a1) : X m_H_slot (d + 1) 0 (entL 5 [.inr (.inr (some 0)), .inl a0, .inl a1]) [] (hp s) (qI (hp s) (f_H_slot s a0 a1)) := by
  unfold f_H_slot
  unfold w_H_slot at hw
  refine X_run 2 (i1 := cond (cn1 .lt a0) 5 2) (L1 := [some (.inr (.inr (some 0))), some (.inl a0), some (.inl a1), none, none]) (st1 := []) rfl ?_
  refine X_brq (fun hb => ?_) (fun hb => ?_)
  · skip
    refine X_run 1 (i1 := 6) (L1 := [some (.inr (.inr (some 0))), some (.inl a0), some (.inl a1), none, none]) (st1 := [.inl (-1 : Int32)]) rfl ?_
    exact X_iret rfl rfl qI_i
  · have hw := hw.2 hb
    refine X_run 3 (i1 := cond (cn2 .lt a0 (16 : Int32)) 7 5) (L1 := [some (.inr (.inr (some 0))), some (.inl a0), some (.inl a1), none, none]) (st1 := []) rfl ?_
    refine X_brq (fun hb => ?_) (fun hb => ?_)
    · have hw := hw.1 hb
      refine X_run 1 (i1 := 8) (L1 := [some (.inr (.inr (some 0))), some (.inl a0), some (.inl a1), none, none]) (st1 := [.inr (.inr (some 0))]) rfl ?_
      refine X_gF (v := .inr (.inr (some 8))) rfl rfl rfl rfl ?_
      refine X_gF (v := .inr (.inr (some 11))) rfl rfl rfl rfl ?_
      refine X_run 1 (i1 := 11) (L1 := [some (.inr (.inr (some 0))), some (.inl a0), some (.inl a1), none, none]) (st1 := [.inl a0, .inr (.inr (some 11))]) rfl ?_
      obtain ⟨hin, hw⟩ := hw
      refine X_aR rfl rfl hin ?_
      show X _ _ 12 [some (.inr (.inr (some 0))), some (.inl a0), some (.inl a1), none, none] [.inr (.inr (sT s 11 (Int32.toNatClampNeg a0)))] (hp s) _
      refine X_run 3 (i1 := cond (cn1 .ne a1) 22 15) (L1 := [some (.inr (.inr (some 0))), some (.inl a0), some (.inl a1), some (.inr (.inr (sT s 11 (Int32.toNatClampNeg a0)))), none]) (st1 := []) rfl ?_
      refine X_brq (fun hb => ?_) (fun hb => ?_)
      · have hw := hw.1 hb
        refine X_run 3 (i1 := cond (cn2 .ne a1 (1 : Int32)) 32 25) (L1 := [some (.inr (.inr (some 0))), some (.inl a0), some (.inl a1), some (.inr (.inr (sT s 11 (Int32.toNatClampNeg a0)))), none]) (st1 := []) rfl ?_
        refine X_brq (fun hb => ?_) (fun hb => ?_)
        · have hw := hw.1 hb
          refine X_run 3 (i1 := cond (cn2 .ne a1 (2 : Int32)) 44 35) (L1 := [some (.inr (.inr (some 0))), some (.inl a0), some (.inl a1), some (.inr (.inr (sT s 11 (Int32.toNatClampNeg a0)))), none]) (st1 := []) rfl ?_
          refine X_brq (fun hb => ?_) (fun hb => ?_)
          · skip
            refine X_run 1 (i1 := 45) (L1 := [some (.inr (.inr (some 0))), some (.inl a0), some (.inl a1), some (.inr (.inr (sT s 11 (Int32.toNatClampNeg a0)))), none]) (st1 := [.inl (-1 : Int32)]) rfl ?_
            exact X_iret rfl rfl qI_i
          · have hw := hw.2 hb
            refine X_run 1 (i1 := 36) (L1 := [some (.inr (.inr (some 0))), some (.inl a0), some (.inl a1), some (.inr (.inr (sT s 11 (Int32.toNatClampNeg a0)))), none]) (st1 := [.inr (.inr (sT s 11 (Int32.toNatClampNeg a0)))]) rfl ?_
            obtain ⟨hc, hw⟩ := hw
            refine X_dinst rfl (by decide) hc ?_
            show X _ _ 37 [some (.inr (.inr (some 0))), some (.inl a0), some (.inl a1), some (.inr (.inr (sT s 11 (Int32.toNatClampNeg a0)))), none] [.inl (b2i (isc (sD s) (sT s 11 (Int32.toNatClampNeg a0)) 2))] (hp s) _
            refine X_run 1 (i1 := cond (cn1 .eq (b2i (isc (sD s) (sT s 11 (Int32.toNatClampNeg a0)) 2))) 44 38) (L1 := [some (.inr (.inr (some 0))), some (.inl a0), some (.inl a1), some (.inr (.inr (sT s 11 (Int32.toNatClampNeg a0)))), none]) (st1 := []) rfl ?_
            refine X_brq (fun hb => ?_) (fun hb => ?_)
            · skip
              refine X_run 1 (i1 := 45) (L1 := [some (.inr (.inr (some 0))), some (.inl a0), some (.inl a1), some (.inr (.inr (sT s 11 (Int32.toNatClampNeg a0)))), none]) (st1 := [.inl (-1 : Int32)]) rfl ?_
              exact X_iret rfl rfl qI_i
            · have hw := hw.2 hb
              refine X_run 1 (i1 := 39) (L1 := [some (.inr (.inr (some 0))), some (.inl a0), some (.inl a1), some (.inr (.inr (sT s 11 (Int32.toNatClampNeg a0)))), none]) (st1 := [.inr (.inr (sT s 11 (Int32.toNatClampNeg a0)))]) rfl ?_
              obtain ⟨hc, hw⟩ := hw
              refine X_dcast rfl hc ?_
              refine X_run 2 (i1 := 42) (L1 := [some (.inr (.inr (some 0))), some (.inl a0), some (.inl a1), some (.inr (.inr (sT s 11 (Int32.toNatClampNeg a0)))), some (.inr (.inr (sT s 11 (Int32.toNatClampNeg a0))))]) (st1 := [.inr (.inr (sT s 11 (Int32.toNatClampNeg a0)))]) rfl ?_
              obtain ⟨hc, hw⟩ := hw
              refine X_dI rfl hc rfl ?_
              show X _ _ 43 [some (.inr (.inr (some 0))), some (.inl a0), some (.inl a1), some (.inr (.inr (sT s 11 (Int32.toNatClampNeg a0)))), some (.inr (.inr (sT s 11 (Int32.toNatClampNeg a0))))] [.inl (gI (sD s) (sT s 11 (Int32.toNatClampNeg a0)) 0)] (hp s) _
              refine X_run 1 (i1 := 45) (L1 := [some (.inr (.inr (some 0))), some (.inl a0), some (.inl a1), some (.inr (.inr (sT s 11 (Int32.toNatClampNeg a0)))), some (.inr (.inr (sT s 11 (Int32.toNatClampNeg a0))))]) (st1 := [.inl (gI (sD s) (sT s 11 (Int32.toNatClampNeg a0)) 0)]) rfl ?_
              exact X_iret rfl rfl qI_i
        · have hw := hw.2 hb
          refine X_run 2 (i1 := cond (Option.isNone (sT s 11 (Int32.toNatClampNeg a0))) 27 29) (L1 := [some (.inr (.inr (some 0))), some (.inl a0), some (.inl a1), some (.inr (.inr (sT s 11 (Int32.toNatClampNeg a0)))), none]) (st1 := []) rfl ?_
          refine X_brq (fun hb => ?_) (fun hb => ?_)
          · skip
            refine X_run 2 (i1 := 31) (L1 := [some (.inr (.inr (some 0))), some (.inl a0), some (.inl a1), some (.inr (.inr (sT s 11 (Int32.toNatClampNeg a0)))), none]) (st1 := [.inl (-1 : Int32)]) rfl ?_
            exact X_iret rfl rfl qI_i
          · have hw := hw.2 hb
            refine X_run 1 (i1 := 30) (L1 := [some (.inr (.inr (some 0))), some (.inl a0), some (.inl a1), some (.inr (.inr (sT s 11 (Int32.toNatClampNeg a0)))), none]) (st1 := [.inr (.inr (sT s 11 (Int32.toNatClampNeg a0)))]) rfl ?_
            obtain ⟨hc, hw⟩ := hw
            refine X_usize (d := d) rfl (Nat.le_of_ble_eq_true rfl) hc ?_
            show X _ _ 31 [some (.inr (.inr (some 0))), some (.inl a0), some (.inl a1), some (.inr (.inr (sT s 11 (Int32.toNatClampNeg a0)))), none] [.inl (u_size s (sT s 11 (Int32.toNatClampNeg a0)))] (hp s) _
            exact X_iret rfl rfl qI_i
      · have hw := hw.2 hb
        refine X_run 2 (i1 := cond (Option.isNone (sT s 11 (Int32.toNatClampNeg a0))) 17 19) (L1 := [some (.inr (.inr (some 0))), some (.inl a0), some (.inl a1), some (.inr (.inr (sT s 11 (Int32.toNatClampNeg a0)))), none]) (st1 := []) rfl ?_
        refine X_brq (fun hb => ?_) (fun hb => ?_)
        · skip
          refine X_run 2 (i1 := 21) (L1 := [some (.inr (.inr (some 0))), some (.inl a0), some (.inl a1), some (.inr (.inr (sT s 11 (Int32.toNatClampNeg a0)))), none]) (st1 := [.inl (0 : Int32)]) rfl ?_
          exact X_iret rfl rfl qI_i
        · have hw := hw.2 hb
          refine X_run 1 (i1 := 20) (L1 := [some (.inr (.inr (some 0))), some (.inl a0), some (.inl a1), some (.inr (.inr (sT s 11 (Int32.toNatClampNeg a0)))), none]) (st1 := [.inr (.inr (sT s 11 (Int32.toNatClampNeg a0)))]) rfl ?_
          obtain ⟨hc, hw⟩ := hw
          refine X_ukind (d := d) rfl (Nat.le_of_ble_eq_true rfl) hc ?_
          show X _ _ 21 [some (.inr (.inr (some 0))), some (.inl a0), some (.inl a1), some (.inr (.inr (sT s 11 (Int32.toNatClampNeg a0)))), none] [.inl (u_kind s (sT s 11 (Int32.toNatClampNeg a0)))] (hp s) _
          exact X_iret rfl rfl qI_i
    · skip
      refine X_run 1 (i1 := 6) (L1 := [some (.inr (.inr (some 0))), some (.inl a0), some (.inl a1), none, none]) (st1 := [.inl (-1 : Int32)]) rfl ?_
      exact X_iret rfl rfl qI_i
def f_H_same (s : St) (a0 : Int32) (a1 : Int32) : Int32 := (cond (cn1 .lt a0) (-1 : Int32) (cond (cn2 .ge a0 (16 : Int32)) (-1 : Int32) (cond (cn1 .lt a1) (-1 : Int32) (cond (cn2 .lt a1 (16 : Int32)) (if (sT s 11 (Int32.toNatClampNeg a0)) = (sT s 11 (Int32.toNatClampNeg a1)) then (1 : Int32) else (0 : Int32)) (-1 : Int32)))))
def w_H_same (s : St) (a0 : Int32) (a1 : Int32) : Prop := ((cn1 .lt a0) = true → True) ∧ ((cn1 .lt a0) = false → ((cn2 .ge a0 (16 : Int32)) = true → True) ∧ ((cn2 .ge a0 (16 : Int32)) = false → ((cn1 .lt a1) = true → True) ∧ ((cn1 .lt a1) = false → ((cn2 .lt a1 (16 : Int32)) = true → (vp_in a0 16 ∧ (vp_in a1 16 ∧ (lx (sT s 11 (Int32.toNatClampNeg a0)) ∧ (lx (sT s 11 (Int32.toNatClampNeg a1)) ∧ True))))) ∧ ((cn2 .lt a1 (16 : Int32)) = false → True))))
theorem c_H_same {d : Nat} (s : St) (a0 : Int32) (a1 : Int32) (hw : w_H_same s a0 a1) : X m_H_same (d) 0 (entL 3 [.inr (.inr (some 0)), .inl a0, .inl a1]) [] (hp s) (qI (hp s) (f_H_same s a0 a1)) := by
  unfold f_H_same
  unfold w_H_same at hw
  refine X_run 2 (i1 := cond (cn1 .lt a0) 10 2) (L1 := [some (.inr (.inr (some 0))), some (.inl a0), some (.inl a1)]) (st1 := []) rfl ?_
  refine X_brq (fun hb => ?_) (fun hb => ?_)
  · skip
    refine X_run 1 (i1 := 11) (L1 := [some (.inr (.inr (some 0))), some (.inl a0), some (.inl a1)]) (st1 := [.inl (-1 : Int32)]) rfl ?_
    exact X_iret rfl rfl qI_i
  · have hw := hw.2 hb
    refine X_run 3 (i1 := cond (cn2 .ge a0 (16 : Int32)) 10 5) (L1 := [some (.inr (.inr (some 0))), some (.inl a0), some (.inl a1)]) (st1 := []) rfl ?_
    refine X_brq (fun hb => ?_) (fun hb => ?_)
    · skip
      refine X_run 1 (i1 := 11) (L1 := [some (.inr (.inr (some 0))), some (.inl a0), some (.inl a1)]) (st1 := [.inl (-1 : Int32)]) rfl ?_
      exact X_iret rfl rfl qI_i
    · have hw := hw.2 hb
      refine X_run 2 (i1 := cond (cn1 .lt a1) 10 7) (L1 := [some (.inr (.inr (some 0))), some (.inl a0), some (.inl a1)]) (st1 := []) rfl ?_
      refine X_brq (fun hb => ?_) (fun hb => ?_)
      · skip
        refine X_run 1 (i1 := 11) (L1 := [some (.inr (.inr (some 0))), some (.inl a0), some (.inl a1)]) (st1 := [.inl (-1 : Int32)]) rfl ?_
        exact X_iret rfl rfl qI_i
      · have hw := hw.2 hb
        refine X_run 3 (i1 := cond (cn2 .lt a1 (16 : Int32)) 12 10) (L1 := [some (.inr (.inr (some 0))), some (.inl a0), some (.inl a1)]) (st1 := []) rfl ?_
        refine X_brq (fun hb => ?_) (fun hb => ?_)
        · have hw := hw.1 hb
          refine X_run 1 (i1 := 13) (L1 := [some (.inr (.inr (some 0))), some (.inl a0), some (.inl a1)]) (st1 := [.inr (.inr (some 0))]) rfl ?_
          refine X_gF (v := .inr (.inr (some 8))) rfl rfl rfl rfl ?_
          refine X_gF (v := .inr (.inr (some 11))) rfl rfl rfl rfl ?_
          refine X_run 1 (i1 := 16) (L1 := [some (.inr (.inr (some 0))), some (.inl a0), some (.inl a1)]) (st1 := [.inl a0, .inr (.inr (some 11))]) rfl ?_
          obtain ⟨hin, hw⟩ := hw
          refine X_aR rfl rfl hin ?_
          show X _ _ 17 [some (.inr (.inr (some 0))), some (.inl a0), some (.inl a1)] [.inr (.inr (sT s 11 (Int32.toNatClampNeg a0)))] (hp s) _
          refine X_run 1 (i1 := 18) (L1 := [some (.inr (.inr (some 0))), some (.inl a0), some (.inl a1)]) (st1 := [.inr (.inr (some 0)), .inr (.inr (sT s 11 (Int32.toNatClampNeg a0)))]) rfl ?_
          refine X_gF (v := .inr (.inr (some 8))) rfl rfl rfl rfl ?_
          refine X_gF (v := .inr (.inr (some 11))) rfl rfl rfl rfl ?_
          refine X_run 1 (i1 := 21) (L1 := [some (.inr (.inr (some 0))), some (.inl a0), some (.inl a1)]) (st1 := [.inl a1, .inr (.inr (some 11)), .inr (.inr (sT s 11 (Int32.toNatClampNeg a0)))]) rfl ?_
          obtain ⟨hin, hw⟩ := hw
          refine X_aR rfl rfl hin ?_
          show X _ _ 22 [some (.inr (.inr (some 0))), some (.inl a0), some (.inl a1)] [.inr (.inr (sT s 11 (Int32.toNatClampNeg a1))), .inr (.inr (sT s 11 (Int32.toNatClampNeg a0)))] (hp s) _
          obtain ⟨h1, hw⟩ := hw
          obtain ⟨h2, hw⟩ := hw
          refine X_acq rfl h1 h2 (fun hb => ?_) (fun hb => ?_)
          · skip
            refine X_run 2 (i1 := 26) (L1 := [some (.inr (.inr (some 0))), some (.inl a0), some (.inl a1)]) (st1 := [.inl (1 : Int32)]) rfl ?_
            exact X_iret rfl rfl qI_i
          · skip
            refine X_run 1 (i1 := 26) (L1 := [some (.inr (.inr (some 0))), some (.inl a0), some (.inl a1)]) (st1 := [.inl (0 : Int32)]) rfl ?_
            exact X_iret rfl rfl qI_i
        · skip
          refine X_run 1 (i1 := 11) (L1 := [some (.inr (.inr (some 0))), some (.inl a0), some (.inl a1)]) (st1 := [.inl (-1 : Int32)]) rfl ?_
          exact X_iret rfl rfl qI_i
