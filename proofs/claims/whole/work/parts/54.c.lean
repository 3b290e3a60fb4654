def f_En_byteAt (s : St) (a0 : Int32) : Int32 := (cond (cn1 .lt a0) (0 : Int32) (cond (cn2 .ge a0 (3200 : Int32)) (0 : Int32) ((sA s 6 (Int32.toNatClampNeg a0)) &&& (255 : Int32))))
def w_En_byteAt (s : St) (a0 : Int32) : Prop := ((cn1 .lt a0) = true → True) ∧ ((cn1 .lt a0) = false → ((cn2 .ge a0 (3200 : Int32)) = true → True) ∧ ((cn2 .ge a0 (3200 : Int32)) = false → (vp_in a0 3200 ∧ True)))
theorem c_En_byteAt {d : Nat} (s : St) (a0 : Int32) (hw : w_En_byteAt s a0) : X m_En_byteAt (d) 0 (entL 2 [.inr (.inr (some 12)), .inl a0]) [] (hp s) (qI (hp s) (f_En_byteAt s a0)) := by
  unfold f_En_byteAt
  unfold w_En_byteAt at hw
  refine X_run 2 (i1 := cond (cn1 .lt a0) 14 2) (L1 := [some (.inr (.inr (some 12))), some (.inl a0)]) (st1 := []) rfl ?_
  refine X_brq (fun hb => ?_) (fun hb => ?_)
  · skip
    refine X_run 1 (i1 := 15) (L1 := [some (.inr (.inr (some 12))), some (.inl a0)]) (st1 := [.inl (0 : Int32)]) rfl ?_
    exact X_iret rfl rfl qI_i
  · have hw := hw.2 hb
    refine X_run 2 (i1 := 4) (L1 := [some (.inr (.inr (some 12))), some (.inl a0)]) (st1 := [.inr (.inr (some 12)), .inl a0]) rfl ?_
    refine X_gF (v := .inr (.inr (some 6))) rfl rfl rfl rfl ?_
    refine X_lenI rfl rfl ?_
    show X _ _ 6 [some (.inr (.inr (some 12))), some (.inl a0)] [.inl (3200 : Int32), .inl a0] (hp s) _
    refine X_run 1 (i1 := cond (cn2 .ge a0 (3200 : Int32)) 14 7) (L1 := [some (.inr (.inr (some 12))), some (.inl a0)]) (st1 := []) rfl ?_
    refine X_brq (fun hb => ?_) (fun hb => ?_)
    · skip
      refine X_run 1 (i1 := 15) (L1 := [some (.inr (.inr (some 12))), some (.inl a0)]) (st1 := [.inl (0 : Int32)]) rfl ?_
      exact X_iret rfl rfl qI_i
    · have hw := hw.2 hb
      refine X_run 1 (i1 := 8) (L1 := [some (.inr (.inr (some 12))), some (.inl a0)]) (st1 := [.inr (.inr (some 12))]) rfl ?_
      refine X_gF (v := .inr (.inr (some 6))) rfl rfl rfl rfl ?_
      refine X_run 1 (i1 := 10) (L1 := [some (.inr (.inr (some 12))), some (.inl a0)]) (st1 := [.inl a0, .inr (.inr (some 6))]) rfl ?_
      obtain ⟨hin, hw⟩ := hw
      refine X_aY rfl rfl hin ?_
      show X _ _ 11 [some (.inr (.inr (some 12))), some (.inl a0)] [.inl (sA s 6 (Int32.toNatClampNeg a0))] (hp s) _
      refine X_run 3 (i1 := 15) (L1 := [some (.inr (.inr (some 12))), some (.inl a0)]) (st1 := [.inl ((sA s 6 (Int32.toNatClampNeg a0)) &&& (255 : Int32))]) rfl ?_
      exact X_iret rfl rfl qI_i
def t_En_push_22 (s : St) (v3 : Int32) (v4 : Int32) : St := (pI (pA s 16 (upd (sA s 16) (Int32.toNatClampNeg (sI s 12 12)) (v3 + v4))) 12 12 ((sI s 12 12) + (1 : Int32)))
def w_En_push_22 (s : St) (v3 : Int32) (v4 : Int32) : Prop := (vp_in (sI s 12 12) 132 ∧ True)
theorem ct_En_push_22 {d : Nat} (s : St) (v3 : Int32) (v4 : Int32) (hw : w_En_push_22 s v3 v4) : X m_En_push (d) 22 [some (.inr (.inr (some 12))), none, none, some (.inl v3), some (.inl v4)] [] (hp s) (qVs (t_En_push_22 s v3 v4)) := by
  unfold t_En_push_22
  unfold w_En_push_22 at hw
  refine X_run 1 (i1 := 23) (L1 := [some (.inr (.inr (some 12))), none, none, some (.inl v3), some (.inl v4)]) (st1 := [.inr (.inr (some 12))]) rfl ?_
  refine X_gF (v := .inr (.inr (some 16))) rfl rfl rfl rfl ?_
  refine X_run 1 (i1 := 25) (L1 := [some (.inr (.inr (some 12))), none, none, some (.inl v3), some (.inl v4)]) (st1 := [.inr (.inr (some 12)), .inr (.inr (some 16))]) rfl ?_
  refine X_gF (v := .inl (sI s 12 12)) rfl rfl rfl rfl ?_
  refine X_run 3 (i1 := 29) (L1 := [some (.inr (.inr (some 12))), none, none, some (.inl v3), some (.inl v4)]) (st1 := [.inl (v3 + v4), .inl (sI s 12 12), .inr (.inr (some 16))]) rfl ?_
  obtain ⟨hin, hw⟩ := hw
  refine X_sI rfl rfl hin ?_
  show X _ _ 30 [some (.inr (.inr (some 12))), none, none, some (.inl v3), some (.inl v4)] [] (hp (pA s 16 (upd (sA s 16) (Int32.toNatClampNeg (sI s 12 12)) (v3 + v4)))) _
  refine X_run 2 (i1 := 32) (L1 := [some (.inr (.inr (some 12))), none, none, some (.inl v3), some (.inl v4)]) (st1 := [.inr (.inr (some 12)), .inr (.inr (some 12))]) rfl ?_
  refine X_gF (v := .inl (sI s 12 12)) rfl rfl rfl rfl ?_
  refine X_run 2 (i1 := 35) (L1 := [some (.inr (.inr (some 12))), none, none, some (.inl v3), some (.inl v4)]) (st1 := [.inl ((sI s 12 12) + (1 : Int32)), .inr (.inr (some 12))]) rfl ?_
  refine X_pI rfl rfl rfl rfl ?_
  exact X_ret rfl rfl qVs_i
def f_En_push (s : St) (a0 : Int32) (a1 : Int32) (a2 : Int32) (a3 : Int32) : St := (cond (cn2 .ge (sI s 12 12) (132 : Int32)) s (t_En_push_22 (pA (pA (pA s 13 (upd (sA s 13) (Int32.toNatClampNeg (sI s 12 12)) a0)) 14 (upd (sA s 14) (Int32.toNatClampNeg (sI s 12 12)) a1)) 15 (upd (sA s 15) (Int32.toNatClampNeg (sI s 12 12)) a2)) a2 a3))
def w_En_push (s : St) (a0 : Int32) (a1 : Int32) (a2 : Int32) (a3 : Int32) : Prop := ((cn2 .ge (sI s 12 12) (132 : Int32)) = true → True) ∧ ((cn2 .ge (sI s 12 12) (132 : Int32)) = false → (vp_in (sI s 12 12) 132 ∧ (vp_in (sI s 12 12) 132 ∧ (vp_in (sI s 12 12) 132 ∧ (w_En_push_22 (pA (pA (pA s 13 (upd (sA s 13) (Int32.toNatClampNeg (sI s 12 12)) a0)) 14 (upd (sA s 14) (Int32.toNatClampNeg (sI s 12 12)) a1)) 15 (upd (sA s 15) (Int32.toNatClampNeg (sI s 12 12)) a2)) a2 a3)))))
theorem c_En_push {d : Nat} (s : St) (a0 : Int32) (a1 : Int32) (a2 : Int32) (a3 : Int32) (hw : w_En_push s a0 a1 a2 a3) : X m_En_push (d) 0 (entL 5 [.inr (.inr (some 12)), .inl a0, .inl a1, .inl a2, .inl a3]) [] (hp s) (qVs (f_En_push s a0 a1 a2 a3)) := by
  unfold f_En_push
  unfold w_En_push at hw
  refine X_run 1 (i1 := 1) (L1 := [some (.inr (.inr (some 12))), some (.inl a0), some (.inl a1), some (.inl a2), some (.inl a3)]) (st1 := [.inr (.inr (some 12))]) rfl ?_
  refine X_gF (v := .inl (sI s 12 12)) rfl rfl rfl rfl ?_
  refine X_run 2 (i1 := cond (cn2 .ge (sI s 12 12) (132 : Int32)) 36 4) (L1 := [some (.inr (.inr (some 12))), some (.inl a0), some (.inl a1), some (.inl a2), some (.inl a3)]) (st1 := []) rfl ?_
  refine X_brq (fun hb => ?_) (fun hb => ?_)
  · skip
    exact X_ret rfl rfl qVs_i
  · have hw := hw.2 hb
    refine X_run 1 (i1 := 5) (L1 := [some (.inr (.inr (some 12))), some (.inl a0), some (.inl a1), some (.inl a2), some (.inl a3)]) (st1 := [.inr (.inr (some 12))]) rfl ?_
    refine X_gF (v := .inr (.inr (some 13))) rfl rfl rfl rfl ?_
    refine X_run 1 (i1 := 7) (L1 := [some (.inr (.inr (some 12))), some (.inl a0), some (.inl a1), some (.inl a2), some (.inl a3)]) (st1 := [.inr (.inr (some 12)), .inr (.inr (some 13))]) rfl ?_
    refine X_gF (v := .inl (sI s 12 12)) rfl rfl rfl rfl ?_
    refine X_run 1 (i1 := 9) (L1 := [some (.inr (.inr (some 12))), some (.inl a0), some (.inl a1), some (.inl a2), some (.inl a3)]) (st1 := [.inl a0, .inl (sI s 12 12), .inr (.inr (some 13))]) rfl ?_
    obtain ⟨hin, hw⟩ := hw
    refine X_sI rfl rfl hin ?_
    show X _ _ 10 [some (.inr (.inr (some 12))), some (.inl a0), some (.inl a1), some (.inl a2), some (.inl a3)] [] (hp (pA s 13 (upd (sA s 13) (Int32.toNatClampNeg (sI s 12 12)) a0))) _
    refine X_run 1 (i1 := 11) (L1 := [some (.inr (.inr (some 12))), some (.inl a0), some (.inl a1), some (.inl a2), some (.inl a3)]) (st1 := [.inr (.inr (some 12))]) rfl ?_
    refine X_gF (v := .inr (.inr (some 14))) rfl rfl rfl rfl ?_
    refine X_run 1 (i1 := 13) (L1 := [some (.inr (.inr (some 12))), some (.inl a0), some (.inl a1), some (.inl a2), some (.inl a3)]) (st1 := [.inr (.inr (some 12)), .inr (.inr (some 14))]) rfl ?_
    refine X_gF (v := .inl (sI s 12 12)) rfl rfl rfl rfl ?_
    refine X_run 1 (i1 := 15) (L1 := [some (.inr (.inr (some 12))), some (.inl a0), some (.inl a1), some (.inl a2), some (.inl a3)]) (st1 := [.inl a1, .inl (sI s 12 12), .inr (.inr (some 14))]) rfl ?_
    obtain ⟨hin, hw⟩ := hw
    refine X_sI rfl rfl hin ?_
    show X _ _ 16 [some (.inr (.inr (some 12))), some (.inl a0), some (.inl a1), some (.inl a2), some (.inl a3)] [] (hp (pA (pA s 13 (upd (sA s 13) (Int32.toNatClampNeg (sI s 12 12)) a0)) 14 (upd (sA s 14) (Int32.toNatClampNeg (sI s 12 12)) a1))) _
    refine X_run 1 (i1 := 17) (L1 := [some (.inr (.inr (some 12))), some (.inl a0), some (.inl a1), some (.inl a2), some (.inl a3)]) (st1 := [.inr (.inr (some 12))]) rfl ?_
    refine X_gF (v := .inr (.inr (some 15))) rfl rfl rfl rfl ?_
    refine X_run 1 (i1 := 19) (L1 := [some (.inr (.inr (some 12))), some (.inl a0), some (.inl a1), some (.inl a2), some (.inl a3)]) (st1 := [.inr (.inr (some 12)), .inr (.inr (some 15))]) rfl ?_
    refine X_gF (v := .inl (sI s 12 12)) rfl rfl rfl rfl ?_
    refine X_run 1 (i1 := 21) (L1 := [some (.inr (.inr (some 12))), some (.inl a0), some (.inl a1), some (.inl a2), some (.inl a3)]) (st1 := [.inl a2, .inl (sI s 12 12), .inr (.inr (some 15))]) rfl ?_
    obtain ⟨hin, hw⟩ := hw
    refine X_sI rfl rfl hin ?_
    show X _ _ 22 [some (.inr (.inr (some 12))), some (.inl a0), some (.inl a1), some (.inl a2), some (.inl a3)] [] (hp (pA (pA (pA s 13 (upd (sA s 13) (Int32.toNatClampNeg (sI s 12 12)) a0)) 14 (upd (sA s 14) (Int32.toNatClampNeg (sI s 12 12)) a1)) 15 (upd (sA s 15) (Int32.toNatClampNeg (sI s 12 12)) a2))) _
    show X _ _ 22 [some (.inr (.inr (some 12))), some (.inl a0), some (.inl a1), some (.inl a2), some (.inl a3)] [] (hp (pA (pA (pA s 13 (upd (sA s 13) (Int32.toNatClampNeg (sI s 12 12)) a0)) 14 (upd (sA s 14) (Int32.toNatClampNeg (sI s 12 12)) a1)) 15 (upd (sA s 15) (Int32.toNatClampNeg (sI s 12 12)) a2))) _
    refine X_mask [true, false, false, true, true] ?_
    exact ct_En_push_22 (pA (pA (pA s 13 (upd (sA s 13) (Int32.toNatClampNeg (sI s 12 12)) a0)) 14 (upd (sA s 14) (Int32.toNatClampNeg (sI s 12 12)) a1)) 15 (upd (sA s 15) (Int32.toNatClampNeg (sI s 12 12)) a2)) a2 a3 hw
def t_En_pop_11 (s : St) (v1 : Int32) : St := (pI s 12 12 v1)
def w_En_pop_11 (s : St) (v1 : Int32) : Prop := True
theorem ct_En_pop_11 {d : Nat} (s : St) (v1 : Int32) (hw : w_En_pop_11 s v1) : X m_En_pop (d) 11 [some (.inr (.inr (some 12))), some (.inl v1)] [] (hp s) (qVs (t_En_pop_11 s v1)) := by
  unfold t_En_pop_11
  unfold w_En_pop_11 at hw
  refine X_run 2 (i1 := 13) (L1 := [some (.inr (.inr (some 12))), some (.inl v1)]) (st1 := [.inl v1, .inr (.inr (some 12))]) rfl ?_
  refine X_pI rfl rfl rfl rfl ?_
  exact X_ret rfl rfl qVs_i
def f_En_pop (s : St) (a0 : Int32) : St := (cond (cn1 .ne (sA s 13 (Int32.toNatClampNeg a0))) (t_En_pop_11 s a0) (t_En_pop_11 (pI s 12 13 ((sI s 12 13) - (1 : Int32))) a0))
def w_En_pop (s : St) (a0 : Int32) : Prop := (vp_in a0 132 ∧ ((cn1 .ne (sA s 13 (Int32.toNatClampNeg a0))) = true → (w_En_pop_11 s a0)) ∧ ((cn1 .ne (sA s 13 (Int32.toNatClampNeg a0))) = false → (w_En_pop_11 (pI s 12 13 ((sI s 12 13) - (1 : Int32))) a0)))
theorem c_En_pop {d : Nat} (s : St) (a0 : Int32) (hw : w_En_pop s a0) : X m_En_pop (d) 0 (entL 2 [.inr (.inr (some 12)), .inl a0]) [] (hp s) (qVs (f_En_pop s a0)) := by
  unfold f_En_pop
  unfold w_En_pop at hw
  refine X_run 1 (i1 := 1) (L1 := [some (.inr (.inr (some 12))), some (.inl a0)]) (st1 := [.inr (.inr (some 12))]) rfl ?_
  refine X_gF (v := .inr (.inr (some 13))) rfl rfl rfl rfl ?_
  refine X_run 1 (i1 := 3) (L1 := [some (.inr (.inr (some 12))), some (.inl a0)]) (st1 := [.inl a0, .inr (.inr (some 13))]) rfl ?_
  obtain ⟨hin, hw⟩ := hw
  refine X_aI rfl rfl hin ?_
  show X _ _ 4 [some (.inr (.inr (some 12))), some (.inl a0)] [.inl (sA s 13 (Int32.toNatClampNeg a0))] (hp s) _
  refine X_run 1 (i1 := cond (cn1 .ne (sA s 13 (Int32.toNatClampNeg a0))) 11 5) (L1 := [some (.inr (.inr (some 12))), some (.inl a0)]) (st1 := []) rfl ?_
  refine X_brq (fun hb => ?_) (fun hb => ?_)
  · have hw := hw.1 hb
    exact ct_En_pop_11 s a0 hw
  · have hw := hw.2 hb
    refine X_run 2 (i1 := 7) (L1 := [some (.inr (.inr (some 12))), some (.inl a0)]) (st1 := [.inr (.inr (some 12)), .inr (.inr (some 12))]) rfl ?_
    refine X_gF (v := .inl (sI s 12 13)) rfl rfl rfl rfl ?_
    refine X_run 2 (i1 := 10) (L1 := [some (.inr (.inr (some 12))), some (.inl a0)]) (st1 := [.inl ((sI s 12 13) - (1 : Int32)), .inr (.inr (some 12))]) rfl ?_
    refine X_pI rfl rfl rfl rfl ?_
    show X _ _ 11 [some (.inr (.inr (some 12))), some (.inl a0)] [] (hp (pI s 12 13 ((sI s 12 13) - (1 : Int32)))) _
    exact ct_En_pop_11 (pI s 12 13 ((sI s 12 13) - (1 : Int32))) a0 hw
def f_En_beginPatch (s : St) (a0 : Int32) : St := (cond (cn2 .lt (sI s 12 13) (12 : Int32)) (f_En_push (pI s 12 13 ((sI s 12 13) + (1 : Int32))) (0 : Int32) (a0 * (200 : Int32)) (a0 * (200 : Int32)) (sA s 7 (Int32.toNatClampNeg (a0 &&& (15 : Int32))))) (f_Le_fault s (8 : Int32)))
def w_En_beginPatch (s : St) (a0 : Int32) : Prop := ((cn2 .lt (sI s 12 13) (12 : Int32)) = true → (vp_in (a0 &&& (15 : Int32)) 16 ∧ (w_En_push (pI s 12 13 ((sI s 12 13) + (1 : Int32))) (0 : Int32) (a0 * (200 : Int32)) (a0 * (200 : Int32)) (sA s 7 (Int32.toNatClampNeg (a0 &&& (15 : Int32)))) ∧ True))) ∧ ((cn2 .lt (sI s 12 13) (12 : Int32)) = false → (w_Le_fault s (8 : Int32) ∧ True))
theorem c_En_beginPatch {d : Nat} (s : St) (a0 : Int32) (hw : w_En_beginPatch s a0) : X m_En_beginPatch (d + 2) 0 (entL 3 [.inr (.inr (some 12)), .inl a0]) [] (hp s) (qVs (f_En_beginPatch s a0)) := by
  unfold f_En_beginPatch
  unfold w_En_beginPatch at hw
  refine X_run 1 (i1 := 1) (L1 := [some (.inr (.inr (some 12))), some (.inl a0), none]) (st1 := [.inr (.inr (some 12))]) rfl ?_
  refine X_gF (v := .inl (sI s 12 13)) rfl rfl rfl rfl ?_
  refine X_run 2 (i1 := cond (cn2 .lt (sI s 12 13) (12 : Int32)) 9 4) (L1 := [some (.inr (.inr (some 12))), some (.inl a0), none]) (st1 := []) rfl ?_
  refine X_brq (fun hb => ?_) (fun hb => ?_)
  · have hw := hw.1 hb
    refine X_run 2 (i1 := 11) (L1 := [some (.inr (.inr (some 12))), some (.inl a0), none]) (st1 := [.inr (.inr (some 12)), .inr (.inr (some 12))]) rfl ?_
    refine X_gF (v := .inl (sI s 12 13)) rfl rfl rfl rfl ?_
    refine X_run 2 (i1 := 14) (L1 := [some (.inr (.inr (some 12))), some (.inl a0), none]) (st1 := [.inl ((sI s 12 13) + (1 : Int32)), .inr (.inr (some 12))]) rfl ?_
    refine X_pI rfl rfl rfl rfl ?_
    refine X_run 9 (i1 := 24) (L1 := [some (.inr (.inr (some 12))), some (.inl a0), some (.inl (a0 * (200 : Int32)))]) (st1 := [.inr (.inr (some 12)), .inl (a0 * (200 : Int32)), .inl (a0 * (200 : Int32)), .inl (0 : Int32), .inr (.inr (some 12))]) rfl ?_
    refine X_gF (v := .inr (.inr (some 5))) rfl rfl rfl rfl ?_
    refine X_gF (v := .inr (.inr (some 7))) rfl rfl rfl rfl ?_
    refine X_run 3 (i1 := 29) (L1 := [some (.inr (.inr (some 12))), some (.inl a0), some (.inl (a0 * (200 : Int32)))]) (st1 := [.inl (a0 &&& (15 : Int32)), .inr (.inr (some 7)), .inl (a0 * (200 : Int32)), .inl (a0 * (200 : Int32)), .inl (0 : Int32), .inr (.inr (some 12))]) rfl ?_
    obtain ⟨hin, hw⟩ := hw
    refine X_aI rfl rfl hin ?_
    show X _ _ 30 [some (.inr (.inr (some 12))), some (.inl a0), some (.inl (a0 * (200 : Int32)))] [.inl (sA s 7 (Int32.toNatClampNeg (a0 &&& (15 : Int32)))), .inl (a0 * (200 : Int32)), .inl (a0 * (200 : Int32)), .inl (0 : Int32), .inr (.inr (some 12))] (hp (pI s 12 13 ((sI s 12 13) + (1 : Int32)))) _
    obtain ⟨hc, hw⟩ := hw
    refine X_callv m_En_push (As := [.inl (0 : Int32), .inl (a0 * (200 : Int32)), .inl (a0 * (200 : Int32)), .inl (sA s 7 (Int32.toNatClampNeg (a0 &&& (15 : Int32))))]) (st := []) ok_En_push rfl rfl rfl (hp_obj rfl) rfl (Nat.le_of_ble_eq_true rfl) (Nat.le_of_ble_eq_true rfl) (c_En_push (d := d + 1) (pI s 12 13 ((sI s 12 13) + (1 : Int32))) (0 : Int32) (a0 * (200 : Int32)) (a0 * (200 : Int32)) (sA s 7 (Int32.toNatClampNeg (a0 &&& (15 : Int32)))) hc) ?_
    rintro _ _ ⟨rfl, rfl⟩
    show X _ _ 31 [some (.inr (.inr (some 12))), some (.inl a0), some (.inl (a0 * (200 : Int32)))] [] (hp (f_En_push (pI s 12 13 ((sI s 12 13) + (1 : Int32))) (0 : Int32) (a0 * (200 : Int32)) (a0 * (200 : Int32)) (sA s 7 (Int32.toNatClampNeg (a0 &&& (15 : Int32)))))) _
    exact X_ret rfl rfl qVs_i
  · have hw := hw.2 hb
    refine X_run 1 (i1 := 5) (L1 := [some (.inr (.inr (some 12))), some (.inl a0), none]) (st1 := [.inr (.inr (some 12))]) rfl ?_
    refine X_gF (v := .inr (.inr (some 1))) rfl rfl rfl rfl ?_
    refine X_run 1 (i1 := 7) (L1 := [some (.inr (.inr (some 12))), some (.inl a0), none]) (st1 := [.inl (8 : Int32), .inr (.inr (some 1))]) rfl ?_
    obtain ⟨hc, hw⟩ := hw
    refine X_callv m_Le_fault (As := [.inl (8 : Int32)]) (st := []) ok_Le_fault rfl rfl rfl (hp_obj rfl) rfl (Nat.le_of_ble_eq_true rfl) (Nat.le_of_ble_eq_true rfl) (c_Le_fault (d := d) s (8 : Int32) hc) ?_
    rintro _ _ ⟨rfl, rfl⟩
    show X _ _ 8 [some (.inr (.inr (some 12))), some (.inl a0), none] [] (hp (f_Le_fault s (8 : Int32))) _
    exact X_ret rfl rfl qVs_i
def f_En_isOn (s : St) (a0 : Int32) : Bool := (cond (cn1 .eq (sA s 9 (Int32.toNatClampNeg ((f_En_byteAt s (a0 + (1 : Int32))) &&& (7 : Int32))))) false true)
def w_En_isOn (s : St) (a0 : Int32) : Prop := (w_En_byteAt s (a0 + (1 : Int32)) ∧ (vp_in ((f_En_byteAt s (a0 + (1 : Int32))) &&& (7 : Int32)) 8 ∧ True))
theorem c_En_isOn {d : Nat} (s : St) (a0 : Int32) (hw : w_En_isOn s a0) : X m_En_isOn (d + 1) 0 (entL 2 [.inr (.inr (some 12)), .inl a0]) [] (hp s) (qB (hp s) (f_En_isOn s a0)) := by
  unfold f_En_isOn
  unfold w_En_isOn at hw
  refine X_run 1 (i1 := 1) (L1 := [some (.inr (.inr (some 12))), some (.inl a0)]) (st1 := [.inr (.inr (some 12))]) rfl ?_
  refine X_gF (v := .inr (.inr (some 8))) rfl rfl rfl rfl ?_
  refine X_gF (v := .inr (.inr (some 9))) rfl rfl rfl rfl ?_
  refine X_run 4 (i1 := 7) (L1 := [some (.inr (.inr (some 12))), some (.inl a0)]) (st1 := [.inl (a0 + (1 : Int32)), .inr (.inr (some 12)), .inr (.inr (some 9))]) rfl ?_
  obtain ⟨hc, hw⟩ := hw
  refine X_callv m_En_byteAt (As := [.inl (a0 + (1 : Int32))]) (st := [.inr (.inr (some 9))]) ok_En_byteAt rfl rfl rfl (hp_obj rfl) rfl (Nat.le_of_ble_eq_true rfl) (Nat.le_of_ble_eq_true rfl) (c_En_byteAt (d := d) s (a0 + (1 : Int32)) hc) ?_
  rintro _ _ ⟨rfl, rfl⟩
  show X _ _ 8 [some (.inr (.inr (some 12))), some (.inl a0)] [.inl (f_En_byteAt s (a0 + (1 : Int32))), .inr (.inr (some 9))] (hp s) _
  refine X_run 2 (i1 := 10) (L1 := [some (.inr (.inr (some 12))), some (.inl a0)]) (st1 := [.inl ((f_En_byteAt s (a0 + (1 : Int32))) &&& (7 : Int32)), .inr (.inr (some 9))]) rfl ?_
  obtain ⟨hin, hw⟩ := hw
  refine X_aI rfl rfl hin ?_
  show X _ _ 11 [some (.inr (.inr (some 12))), some (.inl a0)] [.inl (sA s 9 (Int32.toNatClampNeg ((f_En_byteAt s (a0 + (1 : Int32))) &&& (7 : Int32))))] (hp s) _
  refine X_run 1 (i1 := cond (cn1 .eq (sA s 9 (Int32.toNatClampNeg ((f_En_byteAt s (a0 + (1 : Int32))) &&& (7 : Int32))))) 14 12) (L1 := [some (.inr (.inr (some 12))), some (.inl a0)]) (st1 := []) rfl ?_
  refine X_brq (fun hb => ?_) (fun hb => ?_)
  · skip
    refine X_run 1 (i1 := 15) (L1 := [some (.inr (.inr (some 12))), some (.inl a0)]) (st1 := [.inl (0 : Int32)]) rfl ?_
    exact X_zret rfl rfl (b2i_01 false) qB_i
  · skip
    refine X_run 2 (i1 := 15) (L1 := [some (.inr (.inr (some 12))), some (.inl a0)]) (st1 := [.inl (1 : Int32)]) rfl ?_
    exact X_zret rfl rfl (b2i_01 true) qB_i
def f_En_choose (s : St) (a0 : Int32) (a1 : Int32) (a2 : Int32) : St := (cond (cn1 .eq (b2i (f_En_isOn (pA s 15 (upd (sA s 15) (Int32.toNatClampNeg a0) ((a2 + (f_En_byteAt s (a1 + (2 : Int32)))) + (f_En_byteAt s (a1 + (3 : Int32)))))) a1))) (f_En_push (pA s 15 (upd (sA s 15) (Int32.toNatClampNeg a0) ((a2 + (f_En_byteAt s (a1 + (2 : Int32)))) + (f_En_byteAt s (a1 + (3 : Int32)))))) (1 : Int32) a1 (a2 + (f_En_byteAt s (a1 + (2 : Int32)))) (f_En_byteAt s (a1 + (3 : Int32)))) (f_En_push (pA s 15 (upd (sA s 15) (Int32.toNatClampNeg a0) ((a2 + (f_En_byteAt s (a1 + (2 : Int32)))) + (f_En_byteAt s (a1 + (3 : Int32)))))) (1 : Int32) a1 a2 (f_En_byteAt s (a1 + (2 : Int32)))))
def w_En_choose (s : St) (a0 : Int32) (a1 : Int32) (a2 : Int32) : Prop := (w_En_byteAt s (a1 + (2 : Int32)) ∧ (w_En_byteAt s (a1 + (3 : Int32)) ∧ (vp_in a0 132 ∧ (w_En_isOn (pA s 15 (upd (sA s 15) (Int32.toNatClampNeg a0) ((a2 + (f_En_byteAt s (a1 + (2 : Int32)))) + (f_En_byteAt s (a1 + (3 : Int32)))))) a1 ∧ ((cn1 .eq (b2i (f_En_isOn (pA s 15 (upd (sA s 15) (Int32.toNatClampNeg a0) ((a2 + (f_En_byteAt s (a1 + (2 : Int32)))) + (f_En_byteAt s (a1 + (3 : Int32)))))) a1))) = true → (w_En_push (pA s 15 (upd (sA s 15) (Int32.toNatClampNeg a0) ((a2 + (f_En_byteAt s (a1 + (2 : Int32)))) + (f_En_byteAt s (a1 + (3 : Int32)))))) (1 : Int32) a1 (a2 + (f_En_byteAt s (a1 + (2 : Int32)))) (f_En_byteAt s (a1 + (3 : Int32))) ∧ True)) ∧ ((cn1 .eq (b2i (f_En_isOn (pA s 15 (upd (sA s 15) (Int32.toNatClampNeg a0) ((a2 + (f_En_byteAt s (a1 + (2 : Int32)))) + (f_En_byteAt s (a1 + (3 : Int32)))))) a1))) = false → (w_En_push (pA s 15 (upd (sA s 15) (Int32.toNatClampNeg a0) ((a2 + (f_En_byteAt s (a1 + (2 : Int32)))) + (f_En_byteAt s (a1 + (3 : Int32)))))) (1 : Int32) a1 a2 (f_En_byteAt s (a1 + (2 : Int32))) ∧ True))))))
theorem c_En_choose {d : Nat} (s : St) (a0 : Int32) (a1 : Int32) (a2 : Int32) (hw : w_En_choose s a0 a1 a2) : X m_En_choose (d + 2) 0 (entL 6 [.inr (.inr (some 12)), .inl a0, .inl a1, .inl a2]) [] (hp s) (qVs (f_En_choose s a0 a1 a2)) := by
  unfold f_En_choose
  unfold w_En_choose at hw
  refine X_run 4 (i1 := 4) (L1 := [some (.inr (.inr (some 12))), some (.inl a0), some (.inl a1), some (.inl a2), none, none]) (st1 := [.inl (a1 + (2 : Int32)), .inr (.inr (some 12))]) rfl ?_
  obtain ⟨hc, hw⟩ := hw
  refine X_callv m_En_byteAt (As := [.inl (a1 + (2 : Int32))]) (st := []) ok_En_byteAt rfl rfl rfl (hp_obj rfl) rfl (Nat.le_of_ble_eq_true rfl) (Nat.le_of_ble_eq_true rfl) (c_En_byteAt (d := d + 1) s (a1 + (2 : Int32)) hc) ?_
  rintro _ _ ⟨rfl, rfl⟩
  show X _ _ 5 [some (.inr (.inr (some 12))), some (.inl a0), some (.inl a1), some (.inl a2), none, none] [.inl (f_En_byteAt s (a1 + (2 : Int32)))] (hp s) _
  refine X_run 5 (i1 := 10) (L1 := [some (.inr (.inr (some 12))), some (.inl a0), some (.inl a1), some (.inl a2), some (.inl (f_En_byteAt s (a1 + (2 : Int32)))), none]) (st1 := [.inl (a1 + (3 : Int32)), .inr (.inr (some 12))]) rfl ?_
  obtain ⟨hc, hw⟩ := hw
  refine X_callv m_En_byteAt (As := [.inl (a1 + (3 : Int32))]) (st := []) ok_En_byteAt rfl rfl rfl (hp_obj rfl) rfl (Nat.le_of_ble_eq_true rfl) (Nat.le_of_ble_eq_true rfl) (c_En_byteAt (d := d + 1) s (a1 + (3 : Int32)) hc) ?_
  rintro _ _ ⟨rfl, rfl⟩
  show X _ _ 11 [some (.inr (.inr (some 12))), some (.inl a0), some (.inl a1), some (.inl a2), some (.inl (f_En_byteAt s (a1 + (2 : Int32)))), none] [.inl (f_En_byteAt s (a1 + (3 : Int32)))] (hp s) _
  refine X_run 2 (i1 := 13) (L1 := [some (.inr (.inr (some 12))), some (.inl a0), some (.inl a1), some (.inl a2), some (.inl (f_En_byteAt s (a1 + (2 : Int32)))), some (.inl (f_En_byteAt s (a1 + (3 : Int32))))]) (st1 := [.inr (.inr (some 12))]) rfl ?_
  refine X_gF (v := .inr (.inr (some 15))) rfl rfl rfl rfl ?_
  refine X_run 6 (i1 := 20) (L1 := [some (.inr (.inr (some 12))), some (.inl a0), some (.inl a1), some (.inl a2), some (.inl (f_En_byteAt s (a1 + (2 : Int32)))), some (.inl (f_En_byteAt s (a1 + (3 : Int32))))]) (st1 := [.inl ((a2 + (f_En_byteAt s (a1 + (2 : Int32)))) + (f_En_byteAt s (a1 + (3 : Int32)))), .inl a0, .inr (.inr (some 15))]) rfl ?_
  obtain ⟨hin, hw⟩ := hw
  refine X_sI rfl rfl hin ?_
  show X _ _ 21 [some (.inr (.inr (some 12))), some (.inl a0), some (.inl a1), some (.inl a2), some (.inl (f_En_byteAt s (a1 + (2 : Int32)))), some (.inl (f_En_byteAt s (a1 + (3 : Int32))))] [] (hp (pA s 15 (upd (sA s 15) (Int32.toNatClampNeg a0) ((a2 + (f_En_byteAt s (a1 + (2 : Int32)))) + (f_En_byteAt s (a1 + (3 : Int32))))))) _
  refine X_run 2 (i1 := 23) (L1 := [some (.inr (.inr (some 12))), some (.inl a0), some (.inl a1), some (.inl a2), some (.inl (f_En_byteAt s (a1 + (2 : Int32)))), some (.inl (f_En_byteAt s (a1 + (3 : Int32))))]) (st1 := [.inl a1, .inr (.inr (some 12))]) rfl ?_
  obtain ⟨hc, hw⟩ := hw
  refine X_callv m_En_isOn (As := [.inl a1]) (st := []) ok_En_isOn rfl rfl rfl (hp_obj rfl) rfl (Nat.le_of_ble_eq_true rfl) (Nat.le_of_ble_eq_true rfl) (c_En_isOn (d := d) (pA s 15 (upd (sA s 15) (Int32.toNatClampNeg a0) ((a2 + (f_En_byteAt s (a1 + (2 : Int32)))) + (f_En_byteAt s (a1 + (3 : Int32)))))) a1 hc) ?_
  rintro _ _ ⟨rfl, rfl⟩
  show X _ _ 24 [some (.inr (.inr (some 12))), some (.inl a0), some (.inl a1), some (.inl a2), some (.inl (f_En_byteAt s (a1 + (2 : Int32)))), some (.inl (f_En_byteAt s (a1 + (3 : Int32))))] [.inl (b2i (f_En_isOn (pA s 15 (upd (sA s 15) (Int32.toNatClampNeg a0) ((a2 + (f_En_byteAt s (a1 + (2 : Int32)))) + (f_En_byteAt s (a1 + (3 : Int32)))))) a1))] (hp (pA s 15 (upd (sA s 15) (Int32.toNatClampNeg a0) ((a2 + (f_En_byteAt s (a1 + (2 : Int32)))) + (f_En_byteAt s (a1 + (3 : Int32))))))) _
  refine X_run 1 (i1 := cond (cn1 .eq (b2i (f_En_isOn (pA s 15 (upd (sA s 15) (Int32.toNatClampNeg a0) ((a2 + (f_En_byteAt s (a1 + (2 : Int32)))) + (f_En_byteAt s (a1 + (3 : Int32)))))) a1))) 32 25) (L1 := [some (.inr (.inr (some 12))), some (.inl a0), some (.inl a1), some (.inl a2), some (.inl (f_En_byteAt s (a1 + (2 : Int32)))), some (.inl (f_En_byteAt s (a1 + (3 : Int32))))]) (st1 := []) rfl ?_
  refine X_brq (fun hb => ?_) (fun hb => ?_)
  · have hw := hw.1 hb
    refine X_run 7 (i1 := 39) (L1 := [some (.inr (.inr (some 12))), some (.inl a0), some (.inl a1), some (.inl a2), some (.inl (f_En_byteAt s (a1 + (2 : Int32)))), some (.inl (f_En_byteAt s (a1 + (3 : Int32))))]) (st1 := [.inl (f_En_byteAt s (a1 + (3 : Int32))), .inl (a2 + (f_En_byteAt s (a1 + (2 : Int32)))), .inl a1, .inl (1 : Int32), .inr (.inr (some 12))]) rfl ?_
    obtain ⟨hc, hw⟩ := hw
    refine X_callv m_En_push (As := [.inl (1 : Int32), .inl a1, .inl (a2 + (f_En_byteAt s (a1 + (2 : Int32)))), .inl (f_En_byteAt s (a1 + (3 : Int32)))]) (st := []) ok_En_push rfl rfl rfl (hp_obj rfl) rfl (Nat.le_of_ble_eq_true rfl) (Nat.le_of_ble_eq_true rfl) (c_En_push (d := d + 1) (pA s 15 (upd (sA s 15) (Int32.toNatClampNeg a0) ((a2 + (f_En_byteAt s (a1 + (2 : Int32)))) + (f_En_byteAt s (a1 + (3 : Int32)))))) (1 : Int32) a1 (a2 + (f_En_byteAt s (a1 + (2 : Int32)))) (f_En_byteAt s (a1 + (3 : Int32))) hc) ?_
    rintro _ _ ⟨rfl, rfl⟩
    show X _ _ 40 [some (.inr (.inr (some 12))), some (.inl a0), some (.inl a1), some (.inl a2), some (.inl (f_En_byteAt s (a1 + (2 : Int32)))), some (.inl (f_En_byteAt s (a1 + (3 : Int32))))] [] (hp (f_En_push (pA s 15 (upd (sA s 15) (Int32.toNatClampNeg a0) ((a2 + (f_En_byteAt s (a1 + (2 : Int32)))) + (f_En_byteAt s (a1 + (3 : Int32)))))) (1 : Int32) a1 (a2 + (f_En_byteAt s (a1 + (2 : Int32)))) (f_En_byteAt s (a1 + (3 : Int32))))) _
    exact X_ret rfl rfl qVs_i
  · have hw := hw.2 hb
    refine X_run 5 (i1 := 30) (L1 := [some (.inr (.inr (some 12))), some (.inl a0), some (.inl a1), some (.inl a2), some (.inl (f_En_byteAt s (a1 + (2 : Int32)))), some (.inl (f_En_byteAt s (a1 + (3 : Int32))))]) (st1 := [.inl (f_En_byteAt s (a1 + (2 : Int32))), .inl a2, .inl a1, .inl (1 : Int32), .inr (.inr (some 12))]) rfl ?_
    obtain ⟨hc, hw⟩ := hw
    refine X_callv m_En_push (As := [.inl (1 : Int32), .inl a1, .inl a2, .inl (f_En_byteAt s (a1 + (2 : Int32)))]) (st := []) ok_En_push rfl rfl rfl (hp_obj rfl) rfl (Nat.le_of_ble_eq_true rfl) (Nat.le_of_ble_eq_true rfl) (c_En_push (d := d + 1) (pA s 15 (upd (sA s 15) (Int32.toNatClampNeg a0) ((a2 + (f_En_byteAt s (a1 + (2 : Int32)))) + (f_En_byteAt s (a1 + (3 : Int32)))))) (1 : Int32) a1 a2 (f_En_byteAt s (a1 + (2 : Int32))) hc) ?_
    rintro _ _ ⟨rfl, rfl⟩
    show X _ _ 31 [some (.inr (.inr (some 12))), some (.inl a0), some (.inl a1), some (.inl a2), some (.inl (f_En_byteAt s (a1 + (2 : Int32)))), some (.inl (f_En_byteAt s (a1 + (3 : Int32))))] [] (hp (f_En_push (pA s 15 (upd (sA s 15) (Int32.toNatClampNeg a0) ((a2 + (f_En_byteAt s (a1 + (2 : Int32)))) + (f_En_byteAt s (a1 + (3 : Int32)))))) (1 : Int32) a1 a2 (f_En_byteAt s (a1 + (2 : Int32))))) _
    refine X_run 1 (i1 := 40) (L1 := [some (.inr (.inr (some 12))), some (.inl a0), some (.inl a1), some (.inl a2), some (.inl (f_En_byteAt s (a1 + (2 : Int32)))), some (.inl (f_En_byteAt s (a1 + (3 : Int32))))]) (st1 := []) rfl ?_
    exact X_ret rfl rfl qVs_i
def t_En_saves_19 (s : St) (v2 : Int32) (v4 : Int32) : Bool := (cond (cn2 .ne ((v4 >>> (v2 &&& 31)) &&& (1 : Int32)) (1 : Int32)) false true)
def w_En_saves_19 (s : St) (v2 : Int32) (v4 : Int32) : Prop := True
theorem ct_En_saves_19 {d : Nat} (s : St) (v2 : Int32) (v4 : Int32) (hw : w_En_saves_19 s v2 v4) : X m_En_saves (d + 1) 19 [none, none, some (.inl v2), none, some (.inl v4)] [] (hp s) (qB (hp s) (t_En_saves_19 s v2 v4)) := by
  unfold t_En_saves_19
  unfold w_En_saves_19 at hw
  refine X_run 7 (i1 := cond (cn2 .ne ((v4 >>> (v2 &&& 31)) &&& (1 : Int32)) (1 : Int32)) 28 26) (L1 := [none, none, some (.inl v2), none, some (.inl v4)]) (st1 := []) rfl ?_
  refine X_brq (fun hb => ?_) (fun hb => ?_)
  · skip
    refine X_run 1 (i1 := 29) (L1 := [none, none, some (.inl v2), none, some (.inl v4)]) (st1 := [.inl (0 : Int32)]) rfl ?_
    exact X_zret rfl rfl (b2i_01 false) qB_i
  · skip
    refine X_run 2 (i1 := 29) (L1 := [none, none, some (.inl v2), none, some (.inl v4)]) (st1 := [.inl (1 : Int32)]) rfl ?_
    exact X_zret rfl rfl (b2i_01 true) qB_i
def f_En_saves (s : St) (a0 : Int32) (a1 : Int32) : Bool := (t_En_saves_19 s a1 ((f_En_byteAt s ((sA s 14 (Int32.toNatClampNeg a0)) + (2 : Int32))) ||| ((f_En_byteAt s ((sA s 14 (Int32.toNatClampNeg a0)) + (3 : Int32))) <<< ((8 : Int32) &&& 31))))
def w_En_saves (s : St) (a0 : Int32) (a1 : Int32) : Prop := (vp_in a0 132 ∧ (w_En_byteAt s ((sA s 14 (Int32.toNatClampNeg a0)) + (2 : Int32)) ∧ (w_En_byteAt s ((sA s 14 (Int32.toNatClampNeg a0)) + (3 : Int32)) ∧ (w_En_saves_19 s a1 ((f_En_byteAt s ((sA s 14 (Int32.toNatClampNeg a0)) + (2 : Int32))) ||| ((f_En_byteAt s ((sA s 14 (Int32.toNatClampNeg a0)) + (3 : Int32))) <<< ((8 : Int32) &&& 31)))))))
theorem c_En_saves {d : Nat} (s : St) (a0 : Int32) (a1 : Int32) (hw : w_En_saves s a0 a1) : X m_En_saves (d + 1) 0 (entL 5 [.inr (.inr (some 12)), .inl a0, .inl a1]) [] (hp s) (qB (hp s) (f_En_saves s a0 a1)) := by
  unfold f_En_saves
  unfold w_En_saves at hw
  refine X_run 1 (i1 := 1) (L1 := [some (.inr (.inr (some 12))), some (.inl a0), some (.inl a1), none, none]) (st1 := [.inr (.inr (some 12))]) rfl ?_
  refine X_gF (v := .inr (.inr (some 14))) rfl rfl rfl rfl ?_
  refine X_run 1 (i1 := 3) (L1 := [some (.inr (.inr (some 12))), some (.inl a0), some (.inl a1), none, none]) (st1 := [.inl a0, .inr (.inr (some 14))]) rfl ?_
  obtain ⟨hin, hw⟩ := hw
  refine X_aI rfl rfl hin ?_
  show X _ _ 4 [some (.inr (.inr (some 12))), some (.inl a0), some (.inl a1), none, none] [.inl (sA s 14 (Int32.toNatClampNeg a0))] (hp s) _
  refine X_run 5 (i1 := 9) (L1 := [some (.inr (.inr (some 12))), some (.inl a0), some (.inl a1), some (.inl (sA s 14 (Int32.toNatClampNeg a0))), none]) (st1 := [.inl ((sA s 14 (Int32.toNatClampNeg a0)) + (2 : Int32)), .inr (.inr (some 12))]) rfl ?_
  obtain ⟨hc, hw⟩ := hw
  refine X_callv m_En_byteAt (As := [.inl ((sA s 14 (Int32.toNatClampNeg a0)) + (2 : Int32))]) (st := []) ok_En_byteAt rfl rfl rfl (hp_obj rfl) rfl (Nat.le_of_ble_eq_true rfl) (Nat.le_of_ble_eq_true rfl) (c_En_byteAt (d := d) s ((sA s 14 (Int32.toNatClampNeg a0)) + (2 : Int32)) hc) ?_
  rintro _ _ ⟨rfl, rfl⟩
  show X _ _ 10 [some (.inr (.inr (some 12))), some (.inl a0), some (.inl a1), some (.inl (sA s 14 (Int32.toNatClampNeg a0))), none] [.inl (f_En_byteAt s ((sA s 14 (Int32.toNatClampNeg a0)) + (2 : Int32)))] (hp s) _
  refine X_run 4 (i1 := 14) (L1 := [some (.inr (.inr (some 12))), some (.inl a0), some (.inl a1), some (.inl (sA s 14 (Int32.toNatClampNeg a0))), none]) (st1 := [.inl ((sA s 14 (Int32.toNatClampNeg a0)) + (3 : Int32)), .inr (.inr (some 12)), .inl (f_En_byteAt s ((sA s 14 (Int32.toNatClampNeg a0)) + (2 : Int32)))]) rfl ?_
  obtain ⟨hc, hw⟩ := hw
  refine X_callv m_En_byteAt (As := [.inl ((sA s 14 (Int32.toNatClampNeg a0)) + (3 : Int32))]) (st := [.inl (f_En_byteAt s ((sA s 14 (Int32.toNatClampNeg a0)) + (2 : Int32)))]) ok_En_byteAt rfl rfl rfl (hp_obj rfl) rfl (Nat.le_of_ble_eq_true rfl) (Nat.le_of_ble_eq_true rfl) (c_En_byteAt (d := d) s ((sA s 14 (Int32.toNatClampNeg a0)) + (3 : Int32)) hc) ?_
  rintro _ _ ⟨rfl, rfl⟩
  show X _ _ 15 [some (.inr (.inr (some 12))), some (.inl a0), some (.inl a1), some (.inl (sA s 14 (Int32.toNatClampNeg a0))), none] [.inl (f_En_byteAt s ((sA s 14 (Int32.toNatClampNeg a0)) + (3 : Int32))), .inl (f_En_byteAt s ((sA s 14 (Int32.toNatClampNeg a0)) + (2 : Int32)))] (hp s) _
  refine X_run 4 (i1 := 19) (L1 := [some (.inr (.inr (some 12))), some (.inl a0), some (.inl a1), some (.inl (sA s 14 (Int32.toNatClampNeg a0))), some (.inl ((f_En_byteAt s ((sA s 14 (Int32.toNatClampNeg a0)) + (2 : Int32))) ||| ((f_En_byteAt s ((sA s 14 (Int32.toNatClampNeg a0)) + (3 : Int32))) <<< ((8 : Int32) &&& 31))))]) (st1 := []) rfl ?_
  refine X_mask [false, false, true, false, true] ?_
  exact ct_En_saves_19 s a1 ((f_En_byteAt s ((sA s 14 (Int32.toNatClampNeg a0)) + (2 : Int32))) ||| ((f_En_byteAt s ((sA s 14 (Int32.toNatClampNeg a0)) + (3 : Int32))) <<< ((8 : Int32) &&& 31))) hw
def t_En_keepSlot_37 (fu : Nat) (s : St) (w0 : Int32) : St := s
def w_En_keepSlot_37 (fu : Nat) (s : St) (w0 : Int32) : Prop := True
theorem ct_En_keepSlot_37 {d : Nat} (fu : Nat) (s : St) (w0 : Int32) (hw : w_En_keepSlot_37 fu s w0) : X m_En_keepSlot (d + 4) 37 [none, none, none] [.inl w0] (hp s) (qVs (t_En_keepSlot_37 fu s w0)) := by
  unfold t_En_keepSlot_37
  unfold w_En_keepSlot_37 at hw
  refine X_run 1 (i1 := 38) (L1 := [none, none, none]) (st1 := []) rfl ?_
  exact X_ret rfl rfl qVs_i
def t_En_keepSlot_29 (fu : Nat) (s : St) (v2 : Option Nat) (w0 : Option Nat) (w1 : Int32) : St := (t_En_keepSlot_37 fu ((f_Le_burn (pT s 20 (va_up (sT s 20) (Int32.toNatClampNeg w1) w0)) (f_Op_eighths (Int32.toInt64 (u_size (pT s 20 (va_up (sT s 20) (Int32.toNatClampNeg w1) w0)) v2)))).2) (b2i (f_Le_burn (pT s 20 (va_up (sT s 20) (Int32.toNatClampNeg w1) w0)) (f_Op_eighths (Int32.toInt64 (u_size (pT s 20 (va_up (sT s 20) (Int32.toNatClampNeg w1) w0)) v2)))).1))
def w_En_keepSlot_29 (fu : Nat) (s : St) (v2 : Option Nat) (w0 : Option Nat) (w1 : Int32) : Prop := (vp_in w1 2112 ∧ (tho (sD s) w0 ∧ (wu_size (pT s 20 (va_up (sT s 20) (Int32.toNatClampNeg w1) w0)) v2 ∧ (w_Le_burn (pT s 20 (va_up (sT s 20) (Int32.toNatClampNeg w1) w0)) (f_Op_eighths (Int32.toInt64 (u_size (pT s 20 (va_up (sT s 20) (Int32.toNatClampNeg w1) w0)) v2))) ∧ (w_En_keepSlot_37 fu ((f_Le_burn (pT s 20 (va_up (sT s 20) (Int32.toNatClampNeg w1) w0)) (f_Op_eighths (Int32.toInt64 (u_size (pT s 20 (va_up (sT s 20) (Int32.toNatClampNeg w1) w0)) v2)))).2) (b2i (f_Le_burn (pT s 20 (va_up (sT s 20) (Int32.toNatClampNeg w1) w0)) (f_Op_eighths (Int32.toInt64 (u_size (pT s 20 (va_up (sT s 20) (Int32.toNatClampNeg w1) w0)) v2)))).1))))))
theorem ct_En_keepSlot_29 {d : Nat} (fu : Nat) (s : St) (v2 : Option Nat) (w0 : Option Nat) (w1 : Int32) (hw : w_En_keepSlot_29 fu s v2 w0 w1) : X m_En_keepSlot (d + 4) 29 [some (.inr (.inr (some 12))), none, some (.inr (.inr v2))] [.inr (.inr w0), .inl w1, .inr (.inr (some 20))] (hp s) (qVs (t_En_keepSlot_29 fu s v2 w0 w1)) := by
  unfold t_En_keepSlot_29
  unfold w_En_keepSlot_29 at hw
  obtain ⟨hin, hw⟩ := hw
  obtain ⟨hv, hw⟩ := hw
  refine X_sRt rfl rfl hin hv ?_
  show X _ _ 30 [some (.inr (.inr (some 12))), none, some (.inr (.inr v2))] [] (hp (pT s 20 (va_up (sT s 20) (Int32.toNatClampNeg w1) w0))) _
  refine X_run 1 (i1 := 31) (L1 := [some (.inr (.inr (some 12))), none, some (.inr (.inr v2))]) (st1 := [.inr (.inr (some 12))]) rfl ?_
  refine X_gF (v := .inr (.inr (some 1))) rfl rfl rfl rfl ?_
  refine X_run 1 (i1 := 33) (L1 := [some (.inr (.inr (some 12))), none, some (.inr (.inr v2))]) (st1 := [.inr (.inr v2), .inr (.inr (some 1))]) rfl ?_
  obtain ⟨hc, hw⟩ := hw
  refine X_usize (d := d + 3) rfl (Nat.le_of_ble_eq_true rfl) hc ?_
  show X _ _ 34 [some (.inr (.inr (some 12))), none, some (.inr (.inr v2))] [.inl (u_size (pT s 20 (va_up (sT s 20) (Int32.toNatClampNeg w1) w0)) v2), .inr (.inr (some 1))] (hp (pT s 20 (va_up (sT s 20) (Int32.toNatClampNeg w1) w0))) _
  refine X_run 1 (i1 := 35) (L1 := [some (.inr (.inr (some 12))), none, some (.inr (.inr v2))]) (st1 := [.inr (.inl (Int32.toInt64 (u_size (pT s 20 (va_up (sT s 20) (Int32.toNatClampNeg w1) w0)) v2))), .inr (.inr (some 1))]) rfl ?_
  refine X_calls m_Op_eighths (As := [.inr (.inl (Int32.toInt64 (u_size (pT s 20 (va_up (sT s 20) (Int32.toNatClampNeg w1) w0)) v2)))]) (st := [.inr (.inr (some 1))]) ok_Op_eighths rfl rfl rfl (Nat.le_of_ble_eq_true rfl) (Nat.le_of_ble_eq_true rfl) (c_Op_eighths (d := d + 3) (Int32.toInt64 (u_size (pT s 20 (va_up (sT s 20) (Int32.toNatClampNeg w1) w0)) v2))) ?_
  rintro _ _ ⟨rfl, rfl⟩
  show X _ _ 36 [some (.inr (.inr (some 12))), none, some (.inr (.inr v2))] [.inr (.inl (f_Op_eighths (Int32.toInt64 (u_size (pT s 20 (va_up (sT s 20) (Int32.toNatClampNeg w1) w0)) v2)))), .inr (.inr (some 1))] (hp (pT s 20 (va_up (sT s 20) (Int32.toNatClampNeg w1) w0))) _
  obtain ⟨hc, hw⟩ := hw
  refine X_callv m_Le_burn (As := [.inr (.inl (f_Op_eighths (Int32.toInt64 (u_size (pT s 20 (va_up (sT s 20) (Int32.toNatClampNeg w1) w0)) v2))))]) (st := []) ok_Le_burn rfl rfl rfl (hp_obj rfl) rfl (Nat.le_of_ble_eq_true rfl) (Nat.le_of_ble_eq_true rfl) (c_Le_burn (d := d + 3) (pT s 20 (va_up (sT s 20) (Int32.toNatClampNeg w1) w0)) (f_Op_eighths (Int32.toInt64 (u_size (pT s 20 (va_up (sT s 20) (Int32.toNatClampNeg w1) w0)) v2))) hc) ?_
  rintro _ _ ⟨rfl, rfl⟩
  show X _ _ 37 [some (.inr (.inr (some 12))), none, some (.inr (.inr v2))] [.inl (b2i (f_Le_burn (pT s 20 (va_up (sT s 20) (Int32.toNatClampNeg w1) w0)) (f_Op_eighths (Int32.toInt64 (u_size (pT s 20 (va_up (sT s 20) (Int32.toNatClampNeg w1) w0)) v2)))).1)] (hp ((f_Le_burn (pT s 20 (va_up (sT s 20) (Int32.toNatClampNeg w1) w0)) (f_Op_eighths (Int32.toInt64 (u_size (pT s 20 (va_up (sT s 20) (Int32.toNatClampNeg w1) w0)) v2)))).2)) _
  show X _ _ 37 [some (.inr (.inr (some 12))), none, some (.inr (.inr v2))] [.inl (b2i (f_Le_burn (pT s 20 (va_up (sT s 20) (Int32.toNatClampNeg w1) w0)) (f_Op_eighths (Int32.toInt64 (u_size (pT s 20 (va_up (sT s 20) (Int32.toNatClampNeg w1) w0)) v2)))).1)] (hp ((f_Le_burn (pT s 20 (va_up (sT s 20) (Int32.toNatClampNeg w1) w0)) (f_Op_eighths (Int32.toInt64 (u_size (pT s 20 (va_up (sT s 20) (Int32.toNatClampNeg w1) w0)) v2)))).2)) _
  refine X_mask [false, true, false] ?_
  exact ct_En_keepSlot_37 fu ((f_Le_burn (pT s 20 (va_up (sT s 20) (Int32.toNatClampNeg w1) w0)) (f_Op_eighths (Int32.toInt64 (u_size (pT s 20 (va_up (sT s 20) (Int32.toNatClampNeg w1) w0)) v2)))).2) (b2i (f_Le_burn (pT s 20 (va_up (sT s 20) (Int32.toNatClampNeg w1) w0)) (f_Op_eighths (Int32.toInt64 (u_size (pT s 20 (va_up (sT s 20) (Int32.toNatClampNeg w1) w0)) v2)))).1) hw
def t_En_keepSlot_23 (fu : Nat) (s : St) (v1 : Int32) (v2 : Option Nat) (w0 : Int32) : St := (cond (cn1 .eq w0) s (t_En_keepSlot_29 fu ((u_twin fu s v2).2) v2 ((u_twin fu s v2).1) v1))
def w_En_keepSlot_23 (fu : Nat) (s : St) (v1 : Int32) (v2 : Option Nat) (w0 : Int32) : Prop := ((cn1 .eq w0) = true → True) ∧ ((cn1 .eq w0) = false → (wu_twin fu s v2 ∧ (w_En_keepSlot_29 fu ((u_twin fu s v2).2) v2 ((u_twin fu s v2).1) v1)))
theorem ct_En_keepSlot_23 {d : Nat} (fu : Nat) (s : St) (v1 : Int32) (v2 : Option Nat) (w0 : Int32) (hw : w_En_keepSlot_23 fu s v1 v2 w0) : X m_En_keepSlot (d + 4) 23 [some (.inr (.inr (some 12))), some (.inl v1), some (.inr (.inr v2))] [.inl w0] (hp s) (qVs (t_En_keepSlot_23 fu s v1 v2 w0)) := by
  unfold t_En_keepSlot_23
  unfold w_En_keepSlot_23 at hw
  refine X_run 1 (i1 := cond (cn1 .eq w0) 38 24) (L1 := [some (.inr (.inr (some 12))), some (.inl v1), some (.inr (.inr v2))]) (st1 := []) rfl ?_
  refine X_brq (fun hb => ?_) (fun hb => ?_)
  · skip
    exact X_ret rfl rfl qVs_i
  · have hw := hw.2 hb
    refine X_run 1 (i1 := 25) (L1 := [some (.inr (.inr (some 12))), some (.inl v1), some (.inr (.inr v2))]) (st1 := [.inr (.inr (some 12))]) rfl ?_
    refine X_gF (v := .inr (.inr (some 20))) rfl rfl rfl rfl ?_
    refine X_run 2 (i1 := 28) (L1 := [some (.inr (.inr (some 12))), some (.inl v1), some (.inr (.inr v2))]) (st1 := [.inr (.inr v2), .inl v1, .inr (.inr (some 20))]) rfl ?_
    obtain ⟨hc, hw⟩ := hw
    refine X_utwin (d := d) rfl (Nat.le_of_ble_eq_true rfl) hc ?_
    show X _ _ 29 [some (.inr (.inr (some 12))), some (.inl v1), some (.inr (.inr v2))] [.inr (.inr ((u_twin fu s v2).1)), .inl v1, .inr (.inr (some 20))] (hp ((u_twin fu s v2).2)) _
    show X _ _ 29 [some (.inr (.inr (some 12))), some (.inl v1), some (.inr (.inr v2))] [.inr (.inr ((u_twin fu s v2).1)), .inl v1, .inr (.inr (some 20))] (hp ((u_twin fu s v2).2)) _
    refine X_mask [true, false, true] ?_
    exact ct_En_keepSlot_29 fu ((u_twin fu s v2).2) v2 ((u_twin fu s v2).1) v1 hw
def f_En_keepSlot (fu : Nat) (s : St) (a0 : Int32) (a1 : Option Nat) : St := (cond (Option.isNone a1) (pT (pT s 19 (va_up (sT s 19) (Int32.toNatClampNeg a0) a1)) 20 (va_up (sT s 20) (Int32.toNatClampNeg a0) none)) (cond (cn1 .lt (u_size (pT (pT s 19 (va_up (sT s 19) (Int32.toNatClampNeg a0) a1)) 20 (va_up (sT s 20) (Int32.toNatClampNeg a0) none)) a1)) (pT (pT s 19 (va_up (sT s 19) (Int32.toNatClampNeg a0) a1)) 20 (va_up (sT s 20) (Int32.toNatClampNeg a0) none)) (t_En_keepSlot_23 fu ((f_Le_make (pT (pT s 19 (va_up (sT s 19) (Int32.toNatClampNeg a0) a1)) 20 (va_up (sT s 20) (Int32.toNatClampNeg a0) none)) ((1 : Int64) + (Int32.toInt64 (u_size (pT (pT s 19 (va_up (sT s 19) (Int32.toNatClampNeg a0) a1)) 20 (va_up (sT s 20) (Int32.toNatClampNeg a0) none)) a1)))).2) a0 a1 (b2i (f_Le_make (pT (pT s 19 (va_up (sT s 19) (Int32.toNatClampNeg a0) a1)) 20 (va_up (sT s 20) (Int32.toNatClampNeg a0) none)) ((1 : Int64) + (Int32.toInt64 (u_size (pT (pT s 19 (va_up (sT s 19) (Int32.toNatClampNeg a0) a1)) 20 (va_up (sT s 20) (Int32.toNatClampNeg a0) none)) a1)))).1))))
def w_En_keepSlot (fu : Nat) (s : St) (a0 : Int32) (a1 : Option Nat) : Prop := (vp_in a0 2112 ∧ (tho (sD s) a1 ∧ (vp_in a0 2112 ∧ (tho (sD s) none ∧ ((Option.isNone a1) = true → True) ∧ ((Option.isNone a1) = false → (wu_size (pT (pT s 19 (va_up (sT s 19) (Int32.toNatClampNeg a0) a1)) 20 (va_up (sT s 20) (Int32.toNatClampNeg a0) none)) a1 ∧ ((cn1 .lt (u_size (pT (pT s 19 (va_up (sT s 19) (Int32.toNatClampNeg a0) a1)) 20 (va_up (sT s 20) (Int32.toNatClampNeg a0) none)) a1)) = true → True) ∧ ((cn1 .lt (u_size (pT (pT s 19 (va_up (sT s 19) (Int32.toNatClampNeg a0) a1)) 20 (va_up (sT s 20) (Int32.toNatClampNeg a0) none)) a1)) = false → (wu_size (pT (pT s 19 (va_up (sT s 19) (Int32.toNatClampNeg a0) a1)) 20 (va_up (sT s 20) (Int32.toNatClampNeg a0) none)) a1 ∧ (w_Le_make (pT (pT s 19 (va_up (sT s 19) (Int32.toNatClampNeg a0) a1)) 20 (va_up (sT s 20) (Int32.toNatClampNeg a0) none)) ((1 : Int64) + (Int32.toInt64 (u_size (pT (pT s 19 (va_up (sT s 19) (Int32.toNatClampNeg a0) a1)) 20 (va_up (sT s 20) (Int32.toNatClampNeg a0) none)) a1))) ∧ (w_En_keepSlot_23 fu ((f_Le_make (pT (pT s 19 (va_up (sT s 19) (Int32.toNatClampNeg a0) a1)) 20 (va_up (sT s 20) (Int32.toNatClampNeg a0) none)) ((1 : Int64) + (Int32.toInt64 (u_size (pT (pT s 19 (va_up (sT s 19) (Int32.toNatClampNeg a0) a1)) 20 (va_up (sT s 20) (Int32.toNatClampNeg a0) none)) a1)))).2) a0 a1 (b2i (f_Le_make (pT (pT s 19 (va_up (sT s 19) (Int32.toNatClampNeg a0) a1)) 20 (va_up (sT s 20) (Int32.toNatClampNeg a0) none)) ((1 : Int64) + (Int32.toInt64 (u_size (pT (pT s 19 (va_up (sT s 19) (Int32.toNatClampNeg a0) a1)) 20 (va_up (sT s 20) (Int32.toNatClampNeg a0) none)) a1)))).1)))))))))))
theorem c_En_keepSlot {d : Nat} (fu : Nat) (s : St) (a0 : Int32) (a1 : Option Nat) (hw : w_En_keepSlot fu s a0 a1) : X m_En_keepSlot (d + 4) 0 (entL 3 [.inr (.inr (some 12)), .inl a0, .inr (.inr a1)]) [] (hp s) (qVs (f_En_keepSlot fu s a0 a1)) := by
  unfold f_En_keepSlot
  unfold w_En_keepSlot at hw
  refine X_run 1 (i1 := 1) (L1 := [some (.inr (.inr (some 12))), some (.inl a0), some (.inr (.inr a1))]) (st1 := [.inr (.inr (some 12))]) rfl ?_
  refine X_gF (v := .inr (.inr (some 19))) rfl rfl rfl rfl ?_
  refine X_run 2 (i1 := 4) (L1 := [some (.inr (.inr (some 12))), some (.inl a0), some (.inr (.inr a1))]) (st1 := [.inr (.inr a1), .inl a0, .inr (.inr (some 19))]) rfl ?_
  obtain ⟨hin, hw⟩ := hw
  obtain ⟨hv, hw⟩ := hw
  refine X_sRt rfl rfl hin hv ?_
  show X _ _ 5 [some (.inr (.inr (some 12))), some (.inl a0), some (.inr (.inr a1))] [] (hp (pT s 19 (va_up (sT s 19) (Int32.toNatClampNeg a0) a1))) _
  refine X_run 1 (i1 := 6) (L1 := [some (.inr (.inr (some 12))), some (.inl a0), some (.inr (.inr a1))]) (st1 := [.inr (.inr (some 12))]) rfl ?_
  refine X_gF (v := .inr (.inr (some 20))) rfl rfl rfl rfl ?_
  refine X_run 2 (i1 := 9) (L1 := [some (.inr (.inr (some 12))), some (.inl a0), some (.inr (.inr a1))]) (st1 := [.inr (.inr none), .inl a0, .inr (.inr (some 20))]) rfl ?_
  obtain ⟨hin, hw⟩ := hw
  obtain ⟨hv, hw⟩ := hw
  refine X_sRt rfl rfl hin hv ?_
  show X _ _ 10 [some (.inr (.inr (some 12))), some (.inl a0), some (.inr (.inr a1))] [] (hp (pT (pT s 19 (va_up (sT s 19) (Int32.toNatClampNeg a0) a1)) 20 (va_up (sT s 20) (Int32.toNatClampNeg a0) none))) _
  refine X_run 2 (i1 := cond (Option.isNone a1) 38 12) (L1 := [some (.inr (.inr (some 12))), some (.inl a0), some (.inr (.inr a1))]) (st1 := []) rfl ?_
  refine X_brq (fun hb => ?_) (fun hb => ?_)
  · skip
    exact X_ret rfl rfl qVs_i
  · have hw := hw.2 hb
    refine X_run 1 (i1 := 13) (L1 := [some (.inr (.inr (some 12))), some (.inl a0), some (.inr (.inr a1))]) (st1 := [.inr (.inr a1)]) rfl ?_
    obtain ⟨hc, hw⟩ := hw
    refine X_usize (d := d + 3) rfl (Nat.le_of_ble_eq_true rfl) hc ?_
    show X _ _ 14 [some (.inr (.inr (some 12))), some (.inl a0), some (.inr (.inr a1))] [.inl (u_size (pT (pT s 19 (va_up (sT s 19) (Int32.toNatClampNeg a0) a1)) 20 (va_up (sT s 20) (Int32.toNatClampNeg a0) none)) a1)] (hp (pT (pT s 19 (va_up (sT s 19) (Int32.toNatClampNeg a0) a1)) 20 (va_up (sT s 20) (Int32.toNatClampNeg a0) none))) _
    refine X_run 1 (i1 := cond (cn1 .lt (u_size (pT (pT s 19 (va_up (sT s 19) (Int32.toNatClampNeg a0) a1)) 20 (va_up (sT s 20) (Int32.toNatClampNeg a0) none)) a1)) 38 15) (L1 := [some (.inr (.inr (some 12))), some (.inl a0), some (.inr (.inr a1))]) (st1 := []) rfl ?_
    refine X_brq (fun hb => ?_) (fun hb => ?_)
    · skip
      exact X_ret rfl rfl qVs_i
    · have hw := hw.2 hb
      refine X_run 1 (i1 := 16) (L1 := [some (.inr (.inr (some 12))), some (.inl a0), some (.inr (.inr a1))]) (st1 := [.inr (.inr (some 12))]) rfl ?_
      refine X_gF (v := .inr (.inr (some 1))) rfl rfl rfl rfl ?_
      refine X_run 2 (i1 := 19) (L1 := [some (.inr (.inr (some 12))), some (.inl a0), some (.inr (.inr a1))]) (st1 := [.inr (.inr a1), .inr (.inl (1 : Int64)), .inr (.inr (some 1))]) rfl ?_
      obtain ⟨hc, hw⟩ := hw
      refine X_usize (d := d + 3) rfl (Nat.le_of_ble_eq_true rfl) hc ?_
      show X _ _ 20 [some (.inr (.inr (some 12))), some (.inl a0), some (.inr (.inr a1))] [.inl (u_size (pT (pT s 19 (va_up (sT s 19) (Int32.toNatClampNeg a0) a1)) 20 (va_up (sT s 20) (Int32.toNatClampNeg a0) none)) a1), .inr (.inl (1 : Int64)), .inr (.inr (some 1))] (hp (pT (pT s 19 (va_up (sT s 19) (Int32.toNatClampNeg a0) a1)) 20 (va_up (sT s 20) (Int32.toNatClampNeg a0) none))) _
      refine X_run 2 (i1 := 22) (L1 := [some (.inr (.inr (some 12))), some (.inl a0), some (.inr (.inr a1))]) (st1 := [.inr (.inl ((1 : Int64) + (Int32.toInt64 (u_size (pT (pT s 19 (va_up (sT s 19) (Int32.toNatClampNeg a0) a1)) 20 (va_up (sT s 20) (Int32.toNatClampNeg a0) none)) a1)))), .inr (.inr (some 1))]) rfl ?_
      obtain ⟨hc, hw⟩ := hw
      refine X_callv m_Le_make (As := [.inr (.inl ((1 : Int64) + (Int32.toInt64 (u_size (pT (pT s 19 (va_up (sT s 19) (Int32.toNatClampNeg a0) a1)) 20 (va_up (sT s 20) (Int32.toNatClampNeg a0) none)) a1))))]) (st := []) ok_Le_make rfl rfl rfl (hp_obj rfl) rfl (Nat.le_of_ble_eq_true rfl) (Nat.le_of_ble_eq_true rfl) (c_Le_make (d := d + 3) (pT (pT s 19 (va_up (sT s 19) (Int32.toNatClampNeg a0) a1)) 20 (va_up (sT s 20) (Int32.toNatClampNeg a0) none)) ((1 : Int64) + (Int32.toInt64 (u_size (pT (pT s 19 (va_up (sT s 19) (Int32.toNatClampNeg a0) a1)) 20 (va_up (sT s 20) (Int32.toNatClampNeg a0) none)) a1))) hc) ?_
      rintro _ _ ⟨rfl, rfl⟩
      show X _ _ 23 [some (.inr (.inr (some 12))), some (.inl a0), some (.inr (.inr a1))] [.inl (b2i (f_Le_make (pT (pT s 19 (va_up (sT s 19) (Int32.toNatClampNeg a0) a1)) 20 (va_up (sT s 20) (Int32.toNatClampNeg a0) none)) ((1 : Int64) + (Int32.toInt64 (u_size (pT (pT s 19 (va_up (sT s 19) (Int32.toNatClampNeg a0) a1)) 20 (va_up (sT s 20) (Int32.toNatClampNeg a0) none)) a1)))).1)] (hp ((f_Le_make (pT (pT s 19 (va_up (sT s 19) (Int32.toNatClampNeg a0) a1)) 20 (va_up (sT s 20) (Int32.toNatClampNeg a0) none)) ((1 : Int64) + (Int32.toInt64 (u_size (pT (pT s 19 (va_up (sT s 19) (Int32.toNatClampNeg a0) a1)) 20 (va_up (sT s 20) (Int32.toNatClampNeg a0) none)) a1)))).2)) _
      show X _ _ 23 [some (.inr (.inr (some 12))), some (.inl a0), some (.inr (.inr a1))] [.inl (b2i (f_Le_make (pT (pT s 19 (va_up (sT s 19) (Int32.toNatClampNeg a0) a1)) 20 (va_up (sT s 20) (Int32.toNatClampNeg a0) none)) ((1 : Int64) + (Int32.toInt64 (u_size (pT (pT s 19 (va_up (sT s 19) (Int32.toNatClampNeg a0) a1)) 20 (va_up (sT s 20) (Int32.toNatClampNeg a0) none)) a1)))).1)] (hp ((f_Le_make (pT (pT s 19 (va_up (sT s 19) (Int32.toNatClampNeg a0) a1)) 20 (va_up (sT s 20) (Int32.toNatClampNeg a0) none)) ((1 : Int64) + (Int32.toInt64 (u_size (pT (pT s 19 (va_up (sT s 19) (Int32.toNatClampNeg a0) a1)) 20 (va_up (sT s 20) (Int32.toNatClampNeg a0) none)) a1)))).2)) _
      exact ct_En_keepSlot_23 fu ((f_Le_make (pT (pT s 19 (va_up (sT s 19) (Int32.toNatClampNeg a0) a1)) 20 (va_up (sT s 20) (Int32.toNatClampNeg a0) none)) ((1 : Int64) + (Int32.toInt64 (u_size (pT (pT s 19 (va_up (sT s 19) (Int32.toNatClampNeg a0) a1)) 20 (va_up (sT s 20) (Int32.toNatClampNeg a0) none)) a1)))).2) a0 a1 (b2i (f_Le_make (pT (pT s 19 (va_up (sT s 19) (Int32.toNatClampNeg a0) a1)) 20 (va_up (sT s 20) (Int32.toNatClampNeg a0) none)) ((1 : Int64) + (Int32.toInt64 (u_size (pT (pT s 19 (va_up (sT s 19) (Int32.toNatClampNeg a0) a1)) 20 (va_up (sT s 20) (Int32.toNatClampNeg a0) none)) a1)))).1) hw
abbrev LT_En_keepSlots_2 : Type := (St → Int32 → Int32 → St) × (St → Int32 → Int32 → St)
abbrev LW_En_keepSlots_2 : Type := (St → Int32 → Int32 → Prop) × (St → Int32 → Int32 → Prop)
def hl_En_keepSlots_2 (d : Nat) (lp : LT_En_keepSlots_2) (wlp : LW_En_keepSlots_2) : Prop := (∀ (s : St) (v1 : Int32) (v2 : Int32), wlp.1 s v1 v2 → X m_En_keepSlots d 2 [some (.inr (.inr (some 12))), some (.inl v1), some (.inl v2)] [] (hp s) (qVs (lp.1 s v1 v2))) ∧ (∀ (s : St) (v1 : Int32) (v2 : Int32), wlp.2 s v1 v2 → X m_En_keepSlots d 26 [some (.inr (.inr (some 12))), some (.inl v1), some (.inl v2)] [] (hp s) (qVs (lp.2 s v1 v2)))
def b_En_keepSlots_2 (fu : Nat) (lp : LT_En_keepSlots_2) (s : St) (v1 : Int32) (v2 : Int32) : St := (cond (cn2 .ge v2 (16 : Int32)) s (cond (cn1 .ne (b2i (f_Le_stopped s))) s (cond (cn1 .eq (b2i (f_En_saves s v1 v2))) (lp.2 s v1 v2) (lp.2 (f_En_keepSlot fu s ((v1 * (16 : Int32)) + v2) (sT s 11 (Int32.toNatClampNeg v2))) v1 v2))))
def v_En_keepSlots_2 (fu : Nat) (lp : LT_En_keepSlots_2) (wlp : LW_En_keepSlots_2) (s : St) (v1 : Int32) (v2 : Int32) : Prop := ((cn2 .ge v2 (16 : Int32)) = true → True) ∧ ((cn2 .ge v2 (16 : Int32)) = false → (w_Le_stopped s ∧ ((cn1 .ne (b2i (f_Le_stopped s))) = true → True) ∧ ((cn1 .ne (b2i (f_Le_stopped s))) = false → (w_En_saves s v1 v2 ∧ ((cn1 .eq (b2i (f_En_saves s v1 v2))) = true → (wlp.2 s v1 v2)) ∧ ((cn1 .eq (b2i (f_En_saves s v1 v2))) = false → (vp_in v2 16 ∧ (w_En_keepSlot fu s ((v1 * (16 : Int32)) + v2) (sT s 11 (Int32.toNatClampNeg v2)) ∧ (wlp.2 (f_En_keepSlot fu s ((v1 * (16 : Int32)) + v2) (sT s 11 (Int32.toNatClampNeg v2))) v1 v2))))))))
theorem cb_En_keepSlots_2 {d : Nat} (fu : Nat) {lp : LT_En_keepSlots_2} {wlp : LW_En_keepSlots_2} (hlp : hl_En_keepSlots_2 (d + 5) lp wlp) (s : St) (v1 : Int32) (v2 : Int32) (hw : v_En_keepSlots_2 fu lp wlp s v1 v2) : X m_En_keepSlots (d + 5) 2 [some (.inr (.inr (some 12))), some (.inl v1), some (.inl v2)] [] (hp s) (qVs (b_En_keepSlots_2 fu lp s v1 v2)) := by
  unfold b_En_keepSlots_2
  unfold v_En_keepSlots_2 at hw
  refine X_run 3 (i1 := cond (cn2 .ge v2 (16 : Int32)) 28 5) (L1 := [some (.inr (.inr (some 12))), some (.inl v1), some (.inl v2)]) (st1 := []) rfl ?_
  refine X_brq (fun hb => ?_) (fun hb => ?_)
  · skip
    exact X_ret rfl rfl qVs_i
  · have hw := hw.2 hb
    refine X_run 1 (i1 := 6) (L1 := [some (.inr (.inr (some 12))), some (.inl v1), some (.inl v2)]) (st1 := [.inr (.inr (some 12))]) rfl ?_
    refine X_gF (v := .inr (.inr (some 1))) rfl rfl rfl rfl ?_
    obtain ⟨hc, hw⟩ := hw
    refine X_callv m_Le_stopped (As := []) (st := []) ok_Le_stopped rfl rfl rfl (hp_obj rfl) rfl (Nat.le_of_ble_eq_true rfl) (Nat.le_of_ble_eq_true rfl) (c_Le_stopped (d := d + 4) s hc) ?_
    rintro _ _ ⟨rfl, rfl⟩
    show X _ _ 8 [some (.inr (.inr (some 12))), some (.inl v1), some (.inl v2)] [.inl (b2i (f_Le_stopped s))] (hp s) _
    refine X_run 1 (i1 := cond (cn1 .ne (b2i (f_Le_stopped s))) 28 9) (L1 := [some (.inr (.inr (some 12))), some (.inl v1), some (.inl v2)]) (st1 := []) rfl ?_
    refine X_brq (fun hb => ?_) (fun hb => ?_)
    · skip
      exact X_ret rfl rfl qVs_i
    · have hw := hw.2 hb
      refine X_run 3 (i1 := 12) (L1 := [some (.inr (.inr (some 12))), some (.inl v1), some (.inl v2)]) (st1 := [.inl v2, .inl v1, .inr (.inr (some 12))]) rfl ?_
      obtain ⟨hc, hw⟩ := hw
      refine X_callv m_En_saves (As := [.inl v1, .inl v2]) (st := []) ok_En_saves rfl rfl rfl (hp_obj rfl) rfl (Nat.le_of_ble_eq_true rfl) (Nat.le_of_ble_eq_true rfl) (c_En_saves (d := d + 3) s v1 v2 hc) ?_
      rintro _ _ ⟨rfl, rfl⟩
      show X _ _ 13 [some (.inr (.inr (some 12))), some (.inl v1), some (.inl v2)] [.inl (b2i (f_En_saves s v1 v2))] (hp s) _
      refine X_run 1 (i1 := cond (cn1 .eq (b2i (f_En_saves s v1 v2))) 26 14) (L1 := [some (.inr (.inr (some 12))), some (.inl v1), some (.inl v2)]) (st1 := []) rfl ?_
      refine X_brq (fun hb => ?_) (fun hb => ?_)
      · have hw := hw.1 hb
        exact hlp.2 s v1 v2 hw
      · have hw := hw.2 hb
        refine X_run 7 (i1 := 21) (L1 := [some (.inr (.inr (some 12))), some (.inl v1), some (.inl v2)]) (st1 := [.inr (.inr (some 12)), .inl ((v1 * (16 : Int32)) + v2), .inr (.inr (some 12))]) rfl ?_
        refine X_gF (v := .inr (.inr (some 8))) rfl rfl rfl rfl ?_
        refine X_gF (v := .inr (.inr (some 11))) rfl rfl rfl rfl ?_
        refine X_run 1 (i1 := 24) (L1 := [some (.inr (.inr (some 12))), some (.inl v1), some (.inl v2)]) (st1 := [.inl v2, .inr (.inr (some 11)), .inl ((v1 * (16 : Int32)) + v2), .inr (.inr (some 12))]) rfl ?_
        obtain ⟨hin, hw⟩ := hw
        refine X_aR rfl rfl hin ?_
        show X _ _ 25 [some (.inr (.inr (some 12))), some (.inl v1), some (.inl v2)] [.inr (.inr (sT s 11 (Int32.toNatClampNeg v2))), .inl ((v1 * (16 : Int32)) + v2), .inr (.inr (some 12))] (hp s) _
        obtain ⟨hc, hw⟩ := hw
        refine X_callv m_En_keepSlot (As := [.inl ((v1 * (16 : Int32)) + v2), .inr (.inr (sT s 11 (Int32.toNatClampNeg v2)))]) (st := []) ok_En_keepSlot rfl rfl rfl (hp_obj rfl) rfl (Nat.le_of_ble_eq_true rfl) (Nat.le_of_ble_eq_true rfl) (c_En_keepSlot (d := d) fu s ((v1 * (16 : Int32)) + v2) (sT s 11 (Int32.toNatClampNeg v2)) hc) ?_
        rintro _ _ ⟨rfl, rfl⟩
        show X _ _ 26 [some (.inr (.inr (some 12))), some (.inl v1), some (.inl v2)] [] (hp (f_En_keepSlot fu s ((v1 * (16 : Int32)) + v2) (sT s 11 (Int32.toNatClampNeg v2)))) _
        show X _ _ 26 [some (.inr (.inr (some 12))), some (.inl v1), some (.inl v2)] [] (hp (f_En_keepSlot fu s ((v1 * (16 : Int32)) + v2) (sT s 11 (Int32.toNatClampNeg v2)))) _
        exact hlp.2 (f_En_keepSlot fu s ((v1 * (16 : Int32)) + v2) (sT s 11 (Int32.toNatClampNeg v2))) v1 v2 hw
def b_En_keepSlots_26 (fu : Nat) (lp : LT_En_keepSlots_2) (s : St) (v1 : Int32) (v2 : Int32) : St := (lp.1 s v1 (v2 + Int32.ofInt (1)))
def v_En_keepSlots_26 (fu : Nat) (lp : LT_En_keepSlots_2) (wlp : LW_En_keepSlots_2) (s : St) (v1 : Int32) (v2 : Int32) : Prop := (wlp.1 s v1 (v2 + Int32.ofInt (1)))
theorem cb_En_keepSlots_26 {d : Nat} (fu : Nat) {lp : LT_En_keepSlots_2} {wlp : LW_En_keepSlots_2} (hlp : hl_En_keepSlots_2 (d + 5) lp wlp) (s : St) (v1 : Int32) (v2 : Int32) (hw : v_En_keepSlots_26 fu lp wlp s v1 v2) : X m_En_keepSlots (d + 5) 26 [some (.inr (.inr (some 12))), some (.inl v1), some (.inl v2)] [] (hp s) (qVs (b_En_keepSlots_26 fu lp s v1 v2)) := by
  unfold b_En_keepSlots_26
  unfold v_En_keepSlots_26 at hw
  refine X_run 2 (i1 := 2) (L1 := [some (.inr (.inr (some 12))), some (.inl v1), some (.inl (v2 + Int32.ofInt (1)))]) (st1 := []) rfl ?_
  exact hlp.1 s v1 (v2 + Int32.ofInt (1)) hw
def T_En_keepSlots_2 (fu : Nat) : Nat → LT_En_keepSlots_2
  | 0 => (fun s _ _ => s, fun s _ _ => s)
  | n + 1 => (fun s v1 v2 => b_En_keepSlots_2 fu (T_En_keepSlots_2 fu n) s v1 v2, fun s v1 v2 => b_En_keepSlots_26 fu (T_En_keepSlots_2 fu n) s v1 v2)
def WT_En_keepSlots_2 (fu : Nat) : Nat → LW_En_keepSlots_2
  | 0 => (fun _ _ _ => False, fun _ _ _ => False)
  | n + 1 => (fun s v1 v2 => v_En_keepSlots_2 fu (T_En_keepSlots_2 fu n) (WT_En_keepSlots_2 fu n) s v1 v2, fun s v1 v2 => v_En_keepSlots_26 fu (T_En_keepSlots_2 fu n) (WT_En_keepSlots_2 fu n) s v1 v2)
theorem cT_En_keepSlots_2 {d : Nat} (fu : Nat) : ∀ n : Nat, hl_En_keepSlots_2 (d + 5) (T_En_keepSlots_2 fu n) (WT_En_keepSlots_2 fu n)
  | 0 => ⟨fun _ _ _ hw => hw.elim, fun _ _ _ hw => hw.elim⟩
  | n + 1 => ⟨fun s v1 v2 hw => cb_En_keepSlots_2 fu (cT_En_keepSlots_2 fu n) s v1 v2 hw, fun s v1 v2 hw => cb_En_keepSlots_26 fu (cT_En_keepSlots_2 fu n) s v1 v2 hw⟩
def f_En_keepSlots (fu : Nat) (s : St) (a0 : Int32) : St := ((T_En_keepSlots_2 fu fu).1 s a0 (0 : Int32))
def w_En_keepSlots (fu : Nat) (s : St) (a0 : Int32) : Prop := ((WT_En_keepSlots_2 fu fu).1 s a0 (0 : Int32))
theorem c_En_keepSlots {d : Nat} (fu : Nat) (s : St) (a0 : Int32) (hw : w_En_keepSlots fu s a0) : X m_En_keepSlots (d + 5) 0 (entL 3 [.inr (.inr (some 12)), .inl a0]) [] (hp s) (qVs (f_En_keepSlots fu s a0)) := by
  unfold f_En_keepSlots
  unfold w_En_keepSlots at hw
  refine X_run 2 (i1 := 2) (L1 := [some (.inr (.inr (some 12))), some (.inl a0), some (.inl (0 : Int32))]) (st1 := []) rfl ?_
  exact (cT_En_keepSlots_2 fu fu).1 s a0 (0 : Int32) hw
def t_En_beginScope_33 (fu : Nat) (s : St) : St := (f_En_keepSlots fu s ((sI s 12 12) - (1 : Int32)))
def w_En_beginScope_33 (fu : Nat) (s : St) : Prop := (w_En_keepSlots fu s ((sI s 12 12) - (1 : Int32)) ∧ True)
theorem ct_En_beginScope_33 {d : Nat} (fu : Nat) (s : St) (hw : w_En_beginScope_33 fu s) : X m_En_beginScope (d + 6) 33 [some (.inr (.inr (some 12))), none, none, none] [] (hp s) (qVs (t_En_beginScope_33 fu s)) := by
  unfold t_En_beginScope_33
  unfold w_En_beginScope_33 at hw
  refine X_run 2 (i1 := 35) (L1 := [some (.inr (.inr (some 12))), none, none, none]) (st1 := [.inr (.inr (some 12)), .inr (.inr (some 12))]) rfl ?_
  refine X_gF (v := .inl (sI s 12 12)) rfl rfl rfl rfl ?_
  refine X_run 2 (i1 := 38) (L1 := [some (.inr (.inr (some 12))), none, none, none]) (st1 := [.inl ((sI s 12 12) - (1 : Int32)), .inr (.inr (some 12))]) rfl ?_
  obtain ⟨hc, hw⟩ := hw
  refine X_callv m_En_keepSlots (As := [.inl ((sI s 12 12) - (1 : Int32))]) (st := []) ok_En_keepSlots rfl rfl rfl (hp_obj rfl) rfl (Nat.le_of_ble_eq_true rfl) (Nat.le_of_ble_eq_true rfl) (c_En_keepSlots (d := d) fu s ((sI s 12 12) - (1 : Int32)) hc) ?_
  rintro _ _ ⟨rfl, rfl⟩
  show X _ _ 39 [some (.inr (.inr (some 12))), none, none, none] [] (hp (f_En_keepSlots fu s ((sI s 12 12) - (1 : Int32)))) _
  exact X_ret rfl rfl qVs_i
def t_En_beginScope_23 (fu : Nat) (s : St) (v2 : Int32) (v3 : Int32) : St := (t_En_beginScope_33 fu (f_En_push s (3 : Int32) v2 v3 (f_En_byteAt s (v2 + (4 : Int32)))))
def w_En_beginScope_23 (fu : Nat) (s : St) (v2 : Int32) (v3 : Int32) : Prop := (w_En_byteAt s (v2 + (4 : Int32)) ∧ (w_En_push s (3 : Int32) v2 v3 (f_En_byteAt s (v2 + (4 : Int32))) ∧ (w_En_beginScope_33 fu (f_En_push s (3 : Int32) v2 v3 (f_En_byteAt s (v2 + (4 : Int32)))))))
theorem ct_En_beginScope_23 {d : Nat} (fu : Nat) (s : St) (v2 : Int32) (v3 : Int32) (hw : w_En_beginScope_23 fu s v2 v3) : X m_En_beginScope (d + 6) 23 [some (.inr (.inr (some 12))), none, some (.inl v2), some (.inl v3)] [] (hp s) (qVs (t_En_beginScope_23 fu s v2 v3)) := by
  unfold t_En_beginScope_23
  unfold w_En_beginScope_23 at hw
  refine X_run 8 (i1 := 31) (L1 := [some (.inr (.inr (some 12))), none, some (.inl v2), some (.inl v3)]) (st1 := [.inl (v2 + (4 : Int32)), .inr (.inr (some 12)), .inl v3, .inl v2, .inl (3 : Int32), .inr (.inr (some 12))]) rfl ?_
  obtain ⟨hc, hw⟩ := hw
  refine X_callv m_En_byteAt (As := [.inl (v2 + (4 : Int32))]) (st := [.inl v3, .inl v2, .inl (3 : Int32), .inr (.inr (some 12))]) ok_En_byteAt rfl rfl rfl (hp_obj rfl) rfl (Nat.le_of_ble_eq_true rfl) (Nat.le_of_ble_eq_true rfl) (c_En_byteAt (d := d + 5) s (v2 + (4 : Int32)) hc) ?_
  rintro _ _ ⟨rfl, rfl⟩
  show X _ _ 32 [some (.inr (.inr (some 12))), none, some (.inl v2), some (.inl v3)] [.inl (f_En_byteAt s (v2 + (4 : Int32))), .inl v3, .inl v2, .inl (3 : Int32), .inr (.inr (some 12))] (hp s) _
  obtain ⟨hc, hw⟩ := hw
  refine X_callv m_En_push (As := [.inl (3 : Int32), .inl v2, .inl v3, .inl (f_En_byteAt s (v2 + (4 : Int32)))]) (st := []) ok_En_push rfl rfl rfl (hp_obj rfl) rfl (Nat.le_of_ble_eq_true rfl) (Nat.le_of_ble_eq_true rfl) (c_En_push (d := d + 5) s (3 : Int32) v2 v3 (f_En_byteAt s (v2 + (4 : Int32))) hc) ?_
  rintro _ _ ⟨rfl, rfl⟩
  show X _ _ 33 [some (.inr (.inr (some 12))), none, some (.inl v2), some (.inl v3)] [] (hp (f_En_push s (3 : Int32) v2 v3 (f_En_byteAt s (v2 + (4 : Int32))))) _
  show X _ _ 33 [some (.inr (.inr (some 12))), none, some (.inl v2), some (.inl v3)] [] (hp (f_En_push s (3 : Int32) v2 v3 (f_En_byteAt s (v2 + (4 : Int32))))) _
  refine X_mask [true, true, false, false] ?_
  exact ct_En_beginScope_33 fu (f_En_push s (3 : Int32) v2 v3 (f_En_byteAt s (v2 + (4 : Int32)))) hw
def f_En_beginScope (fu : Nat) (s : St) (a0 : Int32) (a1 : Int32) (a2 : Int32) : St := (t_En_beginScope_23 fu (pA s 15 (upd (sA s 15) (Int32.toNatClampNeg a0) (((a2 + (f_En_byteAt s (a1 + (4 : Int32)))) + (f_En_byteAt s (a1 + (5 : Int32)))) + (f_En_byteAt s (a1 + (6 : Int32)))))) a1 a2)
def w_En_beginScope (fu : Nat) (s : St) (a0 : Int32) (a1 : Int32) (a2 : Int32) : Prop := (w_En_byteAt s (a1 + (4 : Int32)) ∧ (w_En_byteAt s (a1 + (5 : Int32)) ∧ (w_En_byteAt s (a1 + (6 : Int32)) ∧ (vp_in a0 132 ∧ (w_En_beginScope_23 fu (pA s 15 (upd (sA s 15) (Int32.toNatClampNeg a0) (((a2 + (f_En_byteAt s (a1 + (4 : Int32)))) + (f_En_byteAt s (a1 + (5 : Int32)))) + (f_En_byteAt s (a1 + (6 : Int32)))))) a1 a2)))))
theorem c_En_beginScope {d : Nat} (fu : Nat) (s : St) (a0 : Int32) (a1 : Int32) (a2 : Int32) (hw : w_En_beginScope fu s a0 a1 a2) : X m_En_beginScope (d + 6) 0 (entL 4 [.inr (.inr (some 12)), .inl a0, .inl a1, .inl a2]) [] (hp s) (qVs (f_En_beginScope fu s a0 a1 a2)) := by
  unfold f_En_beginScope
  unfold w_En_beginScope at hw
  refine X_run 1 (i1 := 1) (L1 := [some (.inr (.inr (some 12))), some (.inl a0), some (.inl a1), some (.inl a2)]) (st1 := [.inr (.inr (some 12))]) rfl ?_
  refine X_gF (v := .inr (.inr (some 15))) rfl rfl rfl rfl ?_
  refine X_run 6 (i1 := 8) (L1 := [some (.inr (.inr (some 12))), some (.inl a0), some (.inl a1), some (.inl a2)]) (st1 := [.inl (a1 + (4 : Int32)), .inr (.inr (some 12)), .inl a2, .inl a0, .inr (.inr (some 15))]) rfl ?_
  obtain ⟨hc, hw⟩ := hw
  refine X_callv m_En_byteAt (As := [.inl (a1 + (4 : Int32))]) (st := [.inl a2, .inl a0, .inr (.inr (some 15))]) ok_En_byteAt rfl rfl rfl (hp_obj rfl) rfl (Nat.le_of_ble_eq_true rfl) (Nat.le_of_ble_eq_true rfl) (c_En_byteAt (d := d + 5) s (a1 + (4 : Int32)) hc) ?_
  rintro _ _ ⟨rfl, rfl⟩
  show X _ _ 9 [some (.inr (.inr (some 12))), some (.inl a0), some (.inl a1), some (.inl a2)] [.inl (f_En_byteAt s (a1 + (4 : Int32))), .inl a2, .inl a0, .inr (.inr (some 15))] (hp s) _
  refine X_run 5 (i1 := 14) (L1 := [some (.inr (.inr (some 12))), some (.inl a0), some (.inl a1), some (.inl a2)]) (st1 := [.inl (a1 + (5 : Int32)), .inr (.inr (some 12)), .inl (a2 + (f_En_byteAt s (a1 + (4 : Int32)))), .inl a0, .inr (.inr (some 15))]) rfl ?_
  obtain ⟨hc, hw⟩ := hw
  refine X_callv m_En_byteAt (As := [.inl (a1 + (5 : Int32))]) (st := [.inl (a2 + (f_En_byteAt s (a1 + (4 : Int32)))), .inl a0, .inr (.inr (some 15))]) ok_En_byteAt rfl rfl rfl (hp_obj rfl) rfl (Nat.le_of_ble_eq_true rfl) (Nat.le_of_ble_eq_true rfl) (c_En_byteAt (d := d + 5) s (a1 + (5 : Int32)) hc) ?_
  rintro _ _ ⟨rfl, rfl⟩
  show X _ _ 15 [some (.inr (.inr (some 12))), some (.inl a0), some (.inl a1), some (.inl a2)] [.inl (f_En_byteAt s (a1 + (5 : Int32))), .inl (a2 + (f_En_byteAt s (a1 + (4 : Int32)))), .inl a0, .inr (.inr (some 15))] (hp s) _
  refine X_run 5 (i1 := 20) (L1 := [some (.inr (.inr (some 12))), some (.inl a0), some (.inl a1), some (.inl a2)]) (st1 := [.inl (a1 + (6 : Int32)), .inr (.inr (some 12)), .inl ((a2 + (f_En_byteAt s (a1 + (4 : Int32)))) + (f_En_byteAt s (a1 + (5 : Int32)))), .inl a0, .inr (.inr (some 15))]) rfl ?_
  obtain ⟨hc, hw⟩ := hw
  refine X_callv m_En_byteAt (As := [.inl (a1 + (6 : Int32))]) (st := [.inl ((a2 + (f_En_byteAt s (a1 + (4 : Int32)))) + (f_En_byteAt s (a1 + (5 : Int32)))), .inl a0, .inr (.inr (some 15))]) ok_En_byteAt rfl rfl rfl (hp_obj rfl) rfl (Nat.le_of_ble_eq_true rfl) (Nat.le_of_ble_eq_true rfl) (c_En_byteAt (d := d + 5) s (a1 + (6 : Int32)) hc) ?_
  rintro _ _ ⟨rfl, rfl⟩
  show X _ _ 21 [some (.inr (.inr (some 12))), some (.inl a0), some (.inl a1), some (.inl a2)] [.inl (f_En_byteAt s (a1 + (6 : Int32))), .inl ((a2 + (f_En_byteAt s (a1 + (4 : Int32)))) + (f_En_byteAt s (a1 + (5 : Int32)))), .inl a0, .inr (.inr (some 15))] (hp s) _
  refine X_run 1 (i1 := 22) (L1 := [some (.inr (.inr (some 12))), some (.inl a0), some (.inl a1), some (.inl a2)]) (st1 := [.inl (((a2 + (f_En_byteAt s (a1 + (4 : Int32)))) + (f_En_byteAt s (a1 + (5 : Int32)))) + (f_En_byteAt s (a1 + (6 : Int32)))), .inl a0, .inr (.inr (some 15))]) rfl ?_
  obtain ⟨hin, hw⟩ := hw
  refine X_sI rfl rfl hin ?_
  show X _ _ 23 [some (.inr (.inr (some 12))), some (.inl a0), some (.inl a1), some (.inl a2)] [] (hp (pA s 15 (upd (sA s 15) (Int32.toNatClampNeg a0) (((a2 + (f_En_byteAt s (a1 + (4 : Int32)))) + (f_En_byteAt s (a1 + (5 : Int32)))) + (f_En_byteAt s (a1 + (6 : Int32))))))) _
  show X _ _ 23 [some (.inr (.inr (some 12))), some (.inl a0), some (.inl a1), some (.inl a2)] [] (hp (pA s 15 (upd (sA s 15) (Int32.toNatClampNeg a0) (((a2 + (f_En_byteAt s (a1 + (4 : Int32)))) + (f_En_byteAt s (a1 + (5 : Int32)))) + (f_En_byteAt s (a1 + (6 : Int32))))))) _
  refine X_mask [true, false, true, true] ?_
  exact ct_En_beginScope_23 fu (pA s 15 (upd (sA s 15) (Int32.toNatClampNeg a0) (((a2 + (f_En_byteAt s (a1 + (4 : Int32)))) + (f_En_byteAt s (a1 + (5 : Int32)))) + (f_En_byteAt s (a1 + (6 : Int32)))))) a1 a2 hw
def t_En_beginOp_47 (fu : Nat) (s : St) (v2 : Int32) (v4 : Int32) : St := (cond (cn1 .eq (b2i (f_En_isOn s v2))) s (f_En_push s (2 : Int32) v2 v4 (f_En_byteAt s (v2 + (2 : Int32)))))
def w_En_beginOp_47 (fu : Nat) (s : St) (v2 : Int32) (v4 : Int32) : Prop := (w_En_isOn s v2 ∧ ((cn1 .eq (b2i (f_En_isOn s v2))) = true → True) ∧ ((cn1 .eq (b2i (f_En_isOn s v2))) = false → (w_En_byteAt s (v2 + (2 : Int32)) ∧ (w_En_push s (2 : Int32) v2 v4 (f_En_byteAt s (v2 + (2 : Int32))) ∧ True))))
theorem ct_En_beginOp_47 {d : Nat} (fu : Nat) (s : St) (v2 : Int32) (v4 : Int32) (hw : w_En_beginOp_47 fu s v2 v4) : X m_En_beginOp (d + 38) 47 [some (.inr (.inr (some 12))), none, some (.inl v2), none, some (.inl v4)] [] (hp s) (qVs (t_En_beginOp_47 fu s v2 v4)) := by
  unfold t_En_beginOp_47
  unfold w_En_beginOp_47 at hw
  refine X_run 2 (i1 := 49) (L1 := [some (.inr (.inr (some 12))), none, some (.inl v2), none, some (.inl v4)]) (st1 := [.inl v2, .inr (.inr (some 12))]) rfl ?_
  obtain ⟨hc, hw⟩ := hw
  refine X_callv m_En_isOn (As := [.inl v2]) (st := []) ok_En_isOn rfl rfl rfl (hp_obj rfl) rfl (Nat.le_of_ble_eq_true rfl) (Nat.le_of_ble_eq_true rfl) (c_En_isOn (d := d + 36) s v2 hc) ?_
  rintro _ _ ⟨rfl, rfl⟩
  show X _ _ 50 [some (.inr (.inr (some 12))), none, some (.inl v2), none, some (.inl v4)] [.inl (b2i (f_En_isOn s v2))] (hp s) _
  refine X_run 1 (i1 := cond (cn1 .eq (b2i (f_En_isOn s v2))) 80 51) (L1 := [some (.inr (.inr (some 12))), none, some (.inl v2), none, some (.inl v4)]) (st1 := []) rfl ?_
  refine X_brq (fun hb => ?_) (fun hb => ?_)
  · skip
    exact X_ret rfl rfl qVs_i
  · have hw := hw.2 hb
    refine X_run 8 (i1 := 59) (L1 := [some (.inr (.inr (some 12))), none, some (.inl v2), none, some (.inl v4)]) (st1 := [.inl (v2 + (2 : Int32)), .inr (.inr (some 12)), .inl v4, .inl v2, .inl (2 : Int32), .inr (.inr (some 12))]) rfl ?_
    obtain ⟨hc, hw⟩ := hw
    refine X_callv m_En_byteAt (As := [.inl (v2 + (2 : Int32))]) (st := [.inl v4, .inl v2, .inl (2 : Int32), .inr (.inr (some 12))]) ok_En_byteAt rfl rfl rfl (hp_obj rfl) rfl (Nat.le_of_ble_eq_true rfl) (Nat.le_of_ble_eq_true rfl) (c_En_byteAt (d := d + 37) s (v2 + (2 : Int32)) hc) ?_
    rintro _ _ ⟨rfl, rfl⟩
    show X _ _ 60 [some (.inr (.inr (some 12))), none, some (.inl v2), none, some (.inl v4)] [.inl (f_En_byteAt s (v2 + (2 : Int32))), .inl v4, .inl v2, .inl (2 : Int32), .inr (.inr (some 12))] (hp s) _
    obtain ⟨hc, hw⟩ := hw
    refine X_callv m_En_push (As := [.inl (2 : Int32), .inl v2, .inl v4, .inl (f_En_byteAt s (v2 + (2 : Int32)))]) (st := []) ok_En_push rfl rfl rfl (hp_obj rfl) rfl (Nat.le_of_ble_eq_true rfl) (Nat.le_of_ble_eq_true rfl) (c_En_push (d := d + 37) s (2 : Int32) v2 v4 (f_En_byteAt s (v2 + (2 : Int32))) hc) ?_
    rintro _ _ ⟨rfl, rfl⟩
    show X _ _ 61 [some (.inr (.inr (some 12))), none, some (.inl v2), none, some (.inl v4)] [] (hp (f_En_push s (2 : Int32) v2 v4 (f_En_byteAt s (v2 + (2 : Int32))))) _
    refine X_run 1 (i1 := 80) (L1 := [some (.inr (.inr (some 12))), none, some (.inl v2), none, some (.inl v4)]) (st1 := []) rfl ?_
    exact X_ret rfl rfl qVs_i
def t_En_beginOp_13 (fu : Nat) (s : St) (v1 : Int32) (v2 : Int32) (v3 : Int32) (w0 : Int32) : St := (cond (cn1 .ne w0) (if v3 = (30 : Int32) then (f_En_choose (pA s 15 (upd (sA s 15) (Int32.toNatClampNeg v1) ((v2 + (1 : Int32)) + (stl (f_Pt_operands s v3))))) v1 v2 ((v2 + (1 : Int32)) + (stl (f_Pt_operands s v3)))) else (if v3 = (31 : Int32) then (t_En_beginOp_47 fu (pA (pA s 15 (upd (sA s 15) (Int32.toNatClampNeg v1) ((v2 + (1 : Int32)) + (stl (f_Pt_operands s v3))))) 15 (upd ((upd (sA s 15) (Int32.toNatClampNeg v1) ((v2 + (1 : Int32)) + (stl (f_Pt_operands s v3))))) (Int32.toNatClampNeg v1) (((v2 + (1 : Int32)) + (stl (f_Pt_operands s v3))) + (f_En_byteAt (pA s 15 (upd (sA s 15) (Int32.toNatClampNeg v1) ((v2 + (1 : Int32)) + (stl (f_Pt_operands s v3))))) (v2 + (2 : Int32)))))) v2 ((v2 + (1 : Int32)) + (stl (f_Pt_operands s v3)))) else (if v3 = (32 : Int32) then (f_En_beginScope fu (pA s 15 (upd (sA s 15) (Int32.toNatClampNeg v1) ((v2 + (1 : Int32)) + (stl (f_Pt_operands s v3))))) v1 v2 ((v2 + (1 : Int32)) + (stl (f_Pt_operands s v3)))) else (if v3 = (33 : Int32) then (f_En_beginPatch (pA s 15 (upd (sA s 15) (Int32.toNatClampNeg v1) ((v2 + (1 : Int32)) + (stl (f_Pt_operands s v3))))) (f_En_byteAt (pA s 15 (upd (sA s 15) (Int32.toNatClampNeg v1) ((v2 + (1 : Int32)) + (stl (f_Pt_operands s v3))))) (v2 + (1 : Int32)))) else (f_Op_perform fu (pA s 15 (upd (sA s 15) (Int32.toNatClampNeg v1) ((v2 + (1 : Int32)) + (stl (f_Pt_operands s v3))))) v2))))) s)
def w_En_beginOp_13 (fu : Nat) (s : St) (v1 : Int32) (v2 : Int32) (v3 : Int32) (w0 : Int32) : Prop := ((cn1 .ne w0) = true → (w_Pt_operands s v3 ∧ (sk (f_Pt_operands s v3) ∧ (vp_in v1 132 ∧ ((v3 = (30 : Int32) → (w_En_choose (pA s 15 (upd (sA s 15) (Int32.toNatClampNeg v1) ((v2 + (1 : Int32)) + (stl (f_Pt_operands s v3))))) v1 v2 ((v2 + (1 : Int32)) + (stl (f_Pt_operands s v3))) ∧ True)) ∧ (¬ v3 = (30 : Int32) → ((v3 = (31 : Int32) → (w_En_byteAt (pA s 15 (upd (sA s 15) (Int32.toNatClampNeg v1) ((v2 + (1 : Int32)) + (stl (f_Pt_operands s v3))))) (v2 + (2 : Int32)) ∧ (vp_in v1 132 ∧ (w_En_beginOp_47 fu (pA (pA s 15 (upd (sA s 15) (Int32.toNatClampNeg v1) ((v2 + (1 : Int32)) + (stl (f_Pt_operands s v3))))) 15 (upd ((upd (sA s 15) (Int32.toNatClampNeg v1) ((v2 + (1 : Int32)) + (stl (f_Pt_operands s v3))))) (Int32.toNatClampNeg v1) (((v2 + (1 : Int32)) + (stl (f_Pt_operands s v3))) + (f_En_byteAt (pA s 15 (upd (sA s 15) (Int32.toNatClampNeg v1) ((v2 + (1 : Int32)) + (stl (f_Pt_operands s v3))))) (v2 + (2 : Int32)))))) v2 ((v2 + (1 : Int32)) + (stl (f_Pt_operands s v3))))))) ∧ (¬ v3 = (31 : Int32) → ((v3 = (32 : Int32) → (w_En_beginScope fu (pA s 15 (upd (sA s 15) (Int32.toNatClampNeg v1) ((v2 + (1 : Int32)) + (stl (f_Pt_operands s v3))))) v1 v2 ((v2 + (1 : Int32)) + (stl (f_Pt_operands s v3))) ∧ True)) ∧ (¬ v3 = (32 : Int32) → ((v3 = (33 : Int32) → (w_En_byteAt (pA s 15 (upd (sA s 15) (Int32.toNatClampNeg v1) ((v2 + (1 : Int32)) + (stl (f_Pt_operands s v3))))) (v2 + (1 : Int32)) ∧ (w_En_beginPatch (pA s 15 (upd (sA s 15) (Int32.toNatClampNeg v1) ((v2 + (1 : Int32)) + (stl (f_Pt_operands s v3))))) (f_En_byteAt (pA s 15 (upd (sA s 15) (Int32.toNatClampNeg v1) ((v2 + (1 : Int32)) + (stl (f_Pt_operands s v3))))) (v2 + (1 : Int32))) ∧ True))) ∧ (¬ v3 = (33 : Int32) → (w_Op_perform fu (pA s 15 (upd (sA s 15) (Int32.toNatClampNeg v1) ((v2 + (1 : Int32)) + (stl (f_Pt_operands s v3))))) v2 ∧ True))))))))))))) ∧ ((cn1 .ne w0) = false → True)
theorem ct_En_beginOp_13 {d : Nat} (fu : Nat) (s : St) (v1 : Int32) (v2 : Int32) (v3 : Int32) (w0 : Int32) (hw : w_En_beginOp_13 fu s v1 v2 v3 w0) : X m_En_beginOp (d + 38) 13 [some (.inr (.inr (some 12))), some (.inl v1), some (.inl v2), some (.inl v3), none] [.inl w0] (hp s) (qVs (t_En_beginOp_13 fu s v1 v2 v3 w0)) := by
  unfold t_En_beginOp_13
  unfold w_En_beginOp_13 at hw
  refine X_run 1 (i1 := cond (cn1 .ne w0) 15 14) (L1 := [some (.inr (.inr (some 12))), some (.inl v1), some (.inl v2), some (.inl v3), none]) (st1 := []) rfl ?_
  refine X_brq (fun hb => ?_) (fun hb => ?_)
  · have hw := hw.1 hb
    refine X_run 4 (i1 := 19) (L1 := [some (.inr (.inr (some 12))), some (.inl v1), some (.inl v2), some (.inl v3), none]) (st1 := [.inl v3, .inl (v2 + (1 : Int32))]) rfl ?_
    obtain ⟨hc, hw⟩ := hw
    refine X_calls m_Pt_operands (As := [.inl v3]) (st := [.inl (v2 + (1 : Int32))]) ok_Pt_operands rfl rfl rfl (Nat.le_of_ble_eq_true rfl) (Nat.le_of_ble_eq_true rfl) (c_Pt_operands (d := d + 37) s v3 hc) ?_
    rintro _ _ ⟨rfl, rfl⟩
    show X _ _ 20 [some (.inr (.inr (some 12))), some (.inl v1), some (.inl v2), some (.inl v3), none] [.inr (.inr (f_Pt_operands s v3)), .inl (v2 + (1 : Int32))] (hp s) _
    obtain ⟨hc, hw⟩ := hw
    refine X_slen rfl (Nat.le_of_ble_eq_true rfl) hc ?_
    refine X_run 3 (i1 := 24) (L1 := [some (.inr (.inr (some 12))), some (.inl v1), some (.inl v2), some (.inl v3), some (.inl ((v2 + (1 : Int32)) + (stl (f_Pt_operands s v3))))]) (st1 := [.inr (.inr (some 12))]) rfl ?_
    refine X_gF (v := .inr (.inr (some 15))) rfl rfl rfl rfl ?_
    refine X_run 2 (i1 := 27) (L1 := [some (.inr (.inr (some 12))), some (.inl v1), some (.inl v2), some (.inl v3), some (.inl ((v2 + (1 : Int32)) + (stl (f_Pt_operands s v3))))]) (st1 := [.inl ((v2 + (1 : Int32)) + (stl (f_Pt_operands s v3))), .inl v1, .inr (.inr (some 15))]) rfl ?_
    obtain ⟨hin, hw⟩ := hw
    refine X_sI rfl rfl hin ?_
    show X _ _ 28 [some (.inr (.inr (some 12))), some (.inl v1), some (.inl v2), some (.inl v3), some (.inl ((v2 + (1 : Int32)) + (stl (f_Pt_operands s v3))))] [] (hp (pA s 15 (upd (sA s 15) (Int32.toNatClampNeg v1) ((v2 + (1 : Int32)) + (stl (f_Pt_operands s v3)))))) _
    refine X_run 1 (i1 := 29) (L1 := [some (.inr (.inr (some 12))), some (.inl v1), some (.inl v2), some (.inl v3), some (.inl ((v2 + (1 : Int32)) + (stl (f_Pt_operands s v3))))]) (st1 := [.inl v3]) rfl ?_
    refine X_itq (fun h => ?_) (fun h29_0 => ?_)
    · refine X_tsk rfl h rfl ?_
      have hw := hw.1 h
      refine X_run 4 (i1 := 34) (L1 := [some (.inr (.inr (some 12))), some (.inl v1), some (.inl v2), some (.inl v3), some (.inl ((v2 + (1 : Int32)) + (stl (f_Pt_operands s v3))))]) (st1 := [.inl ((v2 + (1 : Int32)) + (stl (f_Pt_operands s v3))), .inl v2, .inl v1, .inr (.inr (some 12))]) rfl ?_
      obtain ⟨hc, hw⟩ := hw
      refine X_callv m_En_choose (As := [.inl v1, .inl v2, .inl ((v2 + (1 : Int32)) + (stl (f_Pt_operands s v3)))]) (st := []) ok_En_choose rfl rfl rfl (hp_obj rfl) rfl (Nat.le_of_ble_eq_true rfl) (Nat.le_of_ble_eq_true rfl) (c_En_choose (d := d + 35) (pA s 15 (upd (sA s 15) (Int32.toNatClampNeg v1) ((v2 + (1 : Int32)) + (stl (f_Pt_operands s v3))))) v1 v2 ((v2 + (1 : Int32)) + (stl (f_Pt_operands s v3))) hc) ?_
      rintro _ _ ⟨rfl, rfl⟩
      show X _ _ 35 [some (.inr (.inr (some 12))), some (.inl v1), some (.inl v2), some (.inl v3), some (.inl ((v2 + (1 : Int32)) + (stl (f_Pt_operands s v3))))] [] (hp (f_En_choose (pA s 15 (upd (sA s 15) (Int32.toNatClampNeg v1) ((v2 + (1 : Int32)) + (stl (f_Pt_operands s v3))))) v1 v2 ((v2 + (1 : Int32)) + (stl (f_Pt_operands s v3))))) _
      refine X_run 1 (i1 := 80) (L1 := [some (.inr (.inr (some 12))), some (.inl v1), some (.inl v2), some (.inl v3), some (.inl ((v2 + (1 : Int32)) + (stl (f_Pt_operands s v3))))]) (st1 := []) rfl ?_
      exact X_ret rfl rfl qVs_i
    have hw := hw.2 h29_0
    refine X_itq (fun h => ?_) (fun h29_1 => ?_)
    · refine X_tsk rfl h rfl ?_
      have hw := hw.1 h
      refine X_run 1 (i1 := 37) (L1 := [some (.inr (.inr (some 12))), some (.inl v1), some (.inl v2), some (.inl v3), some (.inl ((v2 + (1 : Int32)) + (stl (f_Pt_operands s v3))))]) (st1 := [.inr (.inr (some 12))]) rfl ?_
      refine X_gF (v := .inr (.inr (some 15))) rfl rfl rfl rfl ?_
      refine X_run 6 (i1 := 44) (L1 := [some (.inr (.inr (some 12))), some (.inl v1), some (.inl v2), some (.inl v3), some (.inl ((v2 + (1 : Int32)) + (stl (f_Pt_operands s v3))))]) (st1 := [.inl (v2 + (2 : Int32)), .inr (.inr (some 12)), .inl ((v2 + (1 : Int32)) + (stl (f_Pt_operands s v3))), .inl v1, .inr (.inr (some 15))]) rfl ?_
      obtain ⟨hc, hw⟩ := hw
      refine X_callv m_En_byteAt (As := [.inl (v2 + (2 : Int32))]) (st := [.inl ((v2 + (1 : Int32)) + (stl (f_Pt_operands s v3))), .inl v1, .inr (.inr (some 15))]) ok_En_byteAt rfl rfl rfl (hp_obj rfl) rfl (Nat.le_of_ble_eq_true rfl) (Nat.le_of_ble_eq_true rfl) (c_En_byteAt (d := d + 37) (pA s 15 (upd (sA s 15) (Int32.toNatClampNeg v1) ((v2 + (1 : Int32)) + (stl (f_Pt_operands s v3))))) (v2 + (2 : Int32)) hc) ?_
      rintro _ _ ⟨rfl, rfl⟩
      show X _ _ 45 [some (.inr (.inr (some 12))), some (.inl v1), some (.inl v2), some (.inl v3), some (.inl ((v2 + (1 : Int32)) + (stl (f_Pt_operands s v3))))] [.inl (f_En_byteAt (pA s 15 (upd (sA s 15) (Int32.toNatClampNeg v1) ((v2 + (1 : Int32)) + (stl (f_Pt_operands s v3))))) (v2 + (2 : Int32))), .inl ((v2 + (1 : Int32)) + (stl (f_Pt_operands s v3))), .inl v1, .inr (.inr (some 15))] (hp (pA s 15 (upd (sA s 15) (Int32.toNatClampNeg v1) ((v2 + (1 : Int32)) + (stl (f_Pt_operands s v3)))))) _
      refine X_run 1 (i1 := 46) (L1 := [some (.inr (.inr (some 12))), some (.inl v1), some (.inl v2), some (.inl v3), some (.inl ((v2 + (1 : Int32)) + (stl (f_Pt_operands s v3))))]) (st1 := [.inl (((v2 + (1 : Int32)) + (stl (f_Pt_operands s v3))) + (f_En_byteAt (pA s 15 (upd (sA s 15) (Int32.toNatClampNeg v1) ((v2 + (1 : Int32)) + (stl (f_Pt_operands s v3))))) (v2 + (2 : Int32)))), .inl v1, .inr (.inr (some 15))]) rfl ?_
      obtain ⟨hin, hw⟩ := hw
      refine X_sI rfl rfl hin ?_
      show X _ _ 47 [some (.inr (.inr (some 12))), some (.inl v1), some (.inl v2), some (.inl v3), some (.inl ((v2 + (1 : Int32)) + (stl (f_Pt_operands s v3))))] [] (hp (pA (pA s 15 (upd (sA s 15) (Int32.toNatClampNeg v1) ((v2 + (1 : Int32)) + (stl (f_Pt_operands s v3))))) 15 (upd ((upd (sA s 15) (Int32.toNatClampNeg v1) ((v2 + (1 : Int32)) + (stl (f_Pt_operands s v3))))) (Int32.toNatClampNeg v1) (((v2 + (1 : Int32)) + (stl (f_Pt_operands s v3))) + (f_En_byteAt (pA s 15 (upd (sA s 15) (Int32.toNatClampNeg v1) ((v2 + (1 : Int32)) + (stl (f_Pt_operands s v3))))) (v2 + (2 : Int32))))))) _
      show X _ _ 47 [some (.inr (.inr (some 12))), some (.inl v1), some (.inl v2), some (.inl v3), some (.inl ((v2 + (1 : Int32)) + (stl (f_Pt_operands s v3))))] [] (hp (pA (pA s 15 (upd (sA s 15) (Int32.toNatClampNeg v1) ((v2 + (1 : Int32)) + (stl (f_Pt_operands s v3))))) 15 (upd ((upd (sA s 15) (Int32.toNatClampNeg v1) ((v2 + (1 : Int32)) + (stl (f_Pt_operands s v3))))) (Int32.toNatClampNeg v1) (((v2 + (1 : Int32)) + (stl (f_Pt_operands s v3))) + (f_En_byteAt (pA s 15 (upd (sA s 15) (Int32.toNatClampNeg v1) ((v2 + (1 : Int32)) + (stl (f_Pt_operands s v3))))) (v2 + (2 : Int32))))))) _
      refine X_mask [true, false, true, false, true] ?_
      exact ct_En_beginOp_47 fu (pA (pA s 15 (upd (sA s 15) (Int32.toNatClampNeg v1) ((v2 + (1 : Int32)) + (stl (f_Pt_operands s v3))))) 15 (upd ((upd (sA s 15) (Int32.toNatClampNeg v1) ((v2 + (1 : Int32)) + (stl (f_Pt_operands s v3))))) (Int32.toNatClampNeg v1) (((v2 + (1 : Int32)) + (stl (f_Pt_operands s v3))) + (f_En_byteAt (pA s 15 (upd (sA s 15) (Int32.toNatClampNeg v1) ((v2 + (1 : Int32)) + (stl (f_Pt_operands s v3))))) (v2 + (2 : Int32)))))) v2 ((v2 + (1 : Int32)) + (stl (f_Pt_operands s v3))) hw
    have hw := hw.2 h29_1
    refine X_itq (fun h => ?_) (fun h29_2 => ?_)
    · refine X_tsk rfl h rfl ?_
      have hw := hw.1 h
      refine X_run 4 (i1 := 66) (L1 := [some (.inr (.inr (some 12))), some (.inl v1), some (.inl v2), some (.inl v3), some (.inl ((v2 + (1 : Int32)) + (stl (f_Pt_operands s v3))))]) (st1 := [.inl ((v2 + (1 : Int32)) + (stl (f_Pt_operands s v3))), .inl v2, .inl v1, .inr (.inr (some 12))]) rfl ?_
      obtain ⟨hc, hw⟩ := hw
      refine X_callv m_En_beginScope (As := [.inl v1, .inl v2, .inl ((v2 + (1 : Int32)) + (stl (f_Pt_operands s v3)))]) (st := []) ok_En_beginScope rfl rfl rfl (hp_obj rfl) rfl (Nat.le_of_ble_eq_true rfl) (Nat.le_of_ble_eq_true rfl) (c_En_beginScope (d := d + 31) fu (pA s 15 (upd (sA s 15) (Int32.toNatClampNeg v1) ((v2 + (1 : Int32)) + (stl (f_Pt_operands s v3))))) v1 v2 ((v2 + (1 : Int32)) + (stl (f_Pt_operands s v3))) hc) ?_
      rintro _ _ ⟨rfl, rfl⟩
      show X _ _ 67 [some (.inr (.inr (some 12))), some (.inl v1), some (.inl v2), some (.inl v3), some (.inl ((v2 + (1 : Int32)) + (stl (f_Pt_operands s v3))))] [] (hp (f_En_beginScope fu (pA s 15 (upd (sA s 15) (Int32.toNatClampNeg v1) ((v2 + (1 : Int32)) + (stl (f_Pt_operands s v3))))) v1 v2 ((v2 + (1 : Int32)) + (stl (f_Pt_operands s v3))))) _
      refine X_run 1 (i1 := 80) (L1 := [some (.inr (.inr (some 12))), some (.inl v1), some (.inl v2), some (.inl v3), some (.inl ((v2 + (1 : Int32)) + (stl (f_Pt_operands s v3))))]) (st1 := []) rfl ?_
      exact X_ret rfl rfl qVs_i
    have hw := hw.2 h29_2
    refine X_itq (fun h => ?_) (fun h29_3 => ?_)
    · refine X_tsk rfl h rfl ?_
      have hw := hw.1 h
      refine X_run 5 (i1 := 73) (L1 := [some (.inr (.inr (some 12))), some (.inl v1), some (.inl v2), some (.inl v3), some (.inl ((v2 + (1 : Int32)) + (stl (f_Pt_operands s v3))))]) (st1 := [.inl (v2 + (1 : Int32)), .inr (.inr (some 12)), .inr (.inr (some 12))]) rfl ?_
      obtain ⟨hc, hw⟩ := hw
      refine X_callv m_En_byteAt (As := [.inl (v2 + (1 : Int32))]) (st := [.inr (.inr (some 12))]) ok_En_byteAt rfl rfl rfl (hp_obj rfl) rfl (Nat.le_of_ble_eq_true rfl) (Nat.le_of_ble_eq_true rfl) (c_En_byteAt (d := d + 37) (pA s 15 (upd (sA s 15) (Int32.toNatClampNeg v1) ((v2 + (1 : Int32)) + (stl (f_Pt_operands s v3))))) (v2 + (1 : Int32)) hc) ?_
      rintro _ _ ⟨rfl, rfl⟩
      show X _ _ 74 [some (.inr (.inr (some 12))), some (.inl v1), some (.inl v2), some (.inl v3), some (.inl ((v2 + (1 : Int32)) + (stl (f_Pt_operands s v3))))] [.inl (f_En_byteAt (pA s 15 (upd (sA s 15) (Int32.toNatClampNeg v1) ((v2 + (1 : Int32)) + (stl (f_Pt_operands s v3))))) (v2 + (1 : Int32))), .inr (.inr (some 12))] (hp (pA s 15 (upd (sA s 15) (Int32.toNatClampNeg v1) ((v2 + (1 : Int32)) + (stl (f_Pt_operands s v3)))))) _
      obtain ⟨hc, hw⟩ := hw
      refine X_callv m_En_beginPatch (As := [.inl (f_En_byteAt (pA s 15 (upd (sA s 15) (Int32.toNatClampNeg v1) ((v2 + (1 : Int32)) + (stl (f_Pt_operands s v3))))) (v2 + (1 : Int32)))]) (st := []) ok_En_beginPatch rfl rfl rfl (hp_obj rfl) rfl (Nat.le_of_ble_eq_true rfl) (Nat.le_of_ble_eq_true rfl) (c_En_beginPatch (d := d + 35) (pA s 15 (upd (sA s 15) (Int32.toNatClampNeg v1) ((v2 + (1 : Int32)) + (stl (f_Pt_operands s v3))))) (f_En_byteAt (pA s 15 (upd (sA s 15) (Int32.toNatClampNeg v1) ((v2 + (1 : Int32)) + (stl (f_Pt_operands s v3))))) (v2 + (1 : Int32))) hc) ?_
      rintro _ _ ⟨rfl, rfl⟩
      show X _ _ 75 [some (.inr (.inr (some 12))), some (.inl v1), some (.inl v2), some (.inl v3), some (.inl ((v2 + (1 : Int32)) + (stl (f_Pt_operands s v3))))] [] (hp (f_En_beginPatch (pA s 15 (upd (sA s 15) (Int32.toNatClampNeg v1) ((v2 + (1 : Int32)) + (stl (f_Pt_operands s v3))))) (f_En_byteAt (pA s 15 (upd (sA s 15) (Int32.toNatClampNeg v1) ((v2 + (1 : Int32)) + (stl (f_Pt_operands s v3))))) (v2 + (1 : Int32))))) _
      refine X_run 1 (i1 := 80) (L1 := [some (.inr (.inr (some 12))), some (.inl v1), some (.inl v2), some (.inl v3), some (.inl ((v2 + (1 : Int32)) + (stl (f_Pt_operands s v3))))]) (st1 := []) rfl ?_
      exact X_ret rfl rfl qVs_i
    have hw := hw.2 h29_3
    refine X_tsd rfl ((sw_out (30) 4 (by decide) (by decide) (fun j hj => by
      match j, hj with
      | 0, _ => exact h29_0
      | 1, _ => exact h29_1
      | 2, _ => exact h29_2
      | 3, _ => exact h29_3
      | j + 4, hj => exact absurd hj (by omega))).imp id (fun h => by omega)) ?_
    refine X_run 1 (i1 := 77) (L1 := [some (.inr (.inr (some 12))), some (.inl v1), some (.inl v2), some (.inl v3), some (.inl ((v2 + (1 : Int32)) + (stl (f_Pt_operands s v3))))]) (st1 := [.inr (.inr (some 12))]) rfl ?_
    refine X_gF (v := .inr (.inr (some 8))) rfl rfl rfl rfl ?_
    refine X_run 1 (i1 := 79) (L1 := [some (.inr (.inr (some 12))), some (.inl v1), some (.inl v2), some (.inl v3), some (.inl ((v2 + (1 : Int32)) + (stl (f_Pt_operands s v3))))]) (st1 := [.inl v2, .inr (.inr (some 8))]) rfl ?_
    obtain ⟨hc, hw⟩ := hw
    refine X_callv m_Op_perform (As := [.inl v2]) (st := []) ok_Op_perform rfl rfl rfl (hp_obj rfl) rfl (Nat.le_of_ble_eq_true rfl) (Nat.le_of_ble_eq_true rfl) (c_Op_perform (d := d) fu (pA s 15 (upd (sA s 15) (Int32.toNatClampNeg v1) ((v2 + (1 : Int32)) + (stl (f_Pt_operands s v3))))) v2 hc) ?_
    rintro _ _ ⟨rfl, rfl⟩
    show X _ _ 80 [some (.inr (.inr (some 12))), some (.inl v1), some (.inl v2), some (.inl v3), some (.inl ((v2 + (1 : Int32)) + (stl (f_Pt_operands s v3))))] [] (hp (f_Op_perform fu (pA s 15 (upd (sA s 15) (Int32.toNatClampNeg v1) ((v2 + (1 : Int32)) + (stl (f_Pt_operands s v3))))) v2)) _
    exact X_ret rfl rfl qVs_i
  · skip
    exact X_ret rfl rfl qVs_i
def f_En_beginOp (fu : Nat) (s : St) (a0 : Int32) : St := (t_En_beginOp_13 fu ((f_Le_burn s (1 : Int64)).2) a0 (sA s 15 (Int32.toNatClampNeg a0)) (f_En_byteAt s (sA s 15 (Int32.toNatClampNeg a0))) (b2i (f_Le_burn s (1 : Int64)).1))
def w_En_beginOp (fu : Nat) (s : St) (a0 : Int32) : Prop := (vp_in a0 132 ∧ (w_En_byteAt s (sA s 15 (Int32.toNatClampNeg a0)) ∧ (w_Le_burn s (1 : Int64) ∧ (w_En_beginOp_13 fu ((f_Le_burn s (1 : Int64)).2) a0 (sA s 15 (Int32.toNatClampNeg a0)) (f_En_byteAt s (sA s 15 (Int32.toNatClampNeg a0))) (b2i (f_Le_burn s (1 : Int64)).1)))))
theorem c_En_beginOp {d : Nat} (fu : Nat) (s : St) (a0 : Int32) (hw : w_En_beginOp fu s a0) : X m_En_beginOp (d + 38) 0 (entL 5 [.inr (.inr (some 12)), .inl a0]) [] (hp s) (qVs (f_En_beginOp fu s a0)) := by
  unfold f_En_beginOp
  unfold w_En_beginOp at hw
  refine X_run 1 (i1 := 1) (L1 := [some (.inr (.inr (some 12))), some (.inl a0), none, none, none]) (st1 := [.inr (.inr (some 12))]) rfl ?_
  refine X_gF (v := .inr (.inr (some 15))) rfl rfl rfl rfl ?_
  refine X_run 1 (i1 := 3) (L1 := [some (.inr (.inr (some 12))), some (.inl a0), none, none, none]) (st1 := [.inl a0, .inr (.inr (some 15))]) rfl ?_
  obtain ⟨hin, hw⟩ := hw
  refine X_aI rfl rfl hin ?_
  show X _ _ 4 [some (.inr (.inr (some 12))), some (.inl a0), none, none, none] [.inl (sA s 15 (Int32.toNatClampNeg a0))] (hp s) _
  refine X_run 3 (i1 := 7) (L1 := [some (.inr (.inr (some 12))), some (.inl a0), some (.inl (sA s 15 (Int32.toNatClampNeg a0))), none, none]) (st1 := [.inl (sA s 15 (Int32.toNatClampNeg a0)), .inr (.inr (some 12))]) rfl ?_
  obtain ⟨hc, hw⟩ := hw
  refine X_callv m_En_byteAt (As := [.inl (sA s 15 (Int32.toNatClampNeg a0))]) (st := []) ok_En_byteAt rfl rfl rfl (hp_obj rfl) rfl (Nat.le_of_ble_eq_true rfl) (Nat.le_of_ble_eq_true rfl) (c_En_byteAt (d := d + 37) s (sA s 15 (Int32.toNatClampNeg a0)) hc) ?_
  rintro _ _ ⟨rfl, rfl⟩
  show X _ _ 8 [some (.inr (.inr (some 12))), some (.inl a0), some (.inl (sA s 15 (Int32.toNatClampNeg a0))), none, none] [.inl (f_En_byteAt s (sA s 15 (Int32.toNatClampNeg a0)))] (hp s) _
  refine X_run 2 (i1 := 10) (L1 := [some (.inr (.inr (some 12))), some (.inl a0), some (.inl (sA s 15 (Int32.toNatClampNeg a0))), some (.inl (f_En_byteAt s (sA s 15 (Int32.toNatClampNeg a0)))), none]) (st1 := [.inr (.inr (some 12))]) rfl ?_
  refine X_gF (v := .inr (.inr (some 1))) rfl rfl rfl rfl ?_
  refine X_run 1 (i1 := 12) (L1 := [some (.inr (.inr (some 12))), some (.inl a0), some (.inl (sA s 15 (Int32.toNatClampNeg a0))), some (.inl (f_En_byteAt s (sA s 15 (Int32.toNatClampNeg a0)))), none]) (st1 := [.inr (.inl (1 : Int64)), .inr (.inr (some 1))]) rfl ?_
  obtain ⟨hc, hw⟩ := hw
  refine X_callv m_Le_burn (As := [.inr (.inl (1 : Int64))]) (st := []) ok_Le_burn rfl rfl rfl (hp_obj rfl) rfl (Nat.le_of_ble_eq_true rfl) (Nat.le_of_ble_eq_true rfl) (c_Le_burn (d := d + 37) s (1 : Int64) hc) ?_
  rintro _ _ ⟨rfl, rfl⟩
  show X _ _ 13 [some (.inr (.inr (some 12))), some (.inl a0), some (.inl (sA s 15 (Int32.toNatClampNeg a0))), some (.inl (f_En_byteAt s (sA s 15 (Int32.toNatClampNeg a0)))), none] [.inl (b2i (f_Le_burn s (1 : Int64)).1)] (hp ((f_Le_burn s (1 : Int64)).2)) _
  show X _ _ 13 [some (.inr (.inr (some 12))), some (.inl a0), some (.inl (sA s 15 (Int32.toNatClampNeg a0))), some (.inl (f_En_byteAt s (sA s 15 (Int32.toNatClampNeg a0)))), none] [.inl (b2i (f_Le_burn s (1 : Int64)).1)] (hp ((f_Le_burn s (1 : Int64)).2)) _
  exact ct_En_beginOp_13 fu ((f_Le_burn s (1 : Int64)).2) a0 (sA s 15 (Int32.toNatClampNeg a0)) (f_En_byteAt s (sA s 15 (Int32.toNatClampNeg a0))) (b2i (f_Le_burn s (1 : Int64)).1) hw
abbrev LT_En_putSlotsBack_2 : Type := (St → Int32 → Int32 → St) × (St → Int32 → Int32 → St)
abbrev LW_En_putSlotsBack_2 : Type := (St → Int32 → Int32 → Prop) × (St → Int32 → Int32 → Prop)
def hl_En_putSlotsBack_2 (d : Nat) (lp : LT_En_putSlotsBack_2) (wlp : LW_En_putSlotsBack_2) : Prop := (∀ (s : St) (v1 : Int32) (v2 : Int32), wlp.1 s v1 v2 → X m_En_putSlotsBack d 2 [some (.inr (.inr (some 12))), some (.inl v1), some (.inl v2), none] [] (hp s) (qVs (lp.1 s v1 v2))) ∧ (∀ (s : St) (v1 : Int32) (v2 : Int32), wlp.2 s v1 v2 → X m_En_putSlotsBack d 37 [some (.inr (.inr (some 12))), some (.inl v1), some (.inl v2), none] [] (hp s) (qVs (lp.2 s v1 v2)))
def b_En_putSlotsBack_2 (fu : Nat) (lp : LT_En_putSlotsBack_2) (s : St) (v1 : Int32) (v2 : Int32) : St := (cond (cn2 .ge v2 (16 : Int32)) s (cond (cn1 .eq (b2i (f_En_saves s v1 v2))) (lp.2 s v1 v2) (cond (Option.isNone (sT s 19 (Int32.toNatClampNeg ((v1 * (16 : Int32)) + v2)))) (lp.2 (pT s 11 (va_up (sT s 11) (Int32.toNatClampNeg v2) (sT s 19 (Int32.toNatClampNeg ((v1 * (16 : Int32)) + v2))))) v1 v2) (lp.2 (u_putBack fu (pT s 11 (va_up (sT s 11) (Int32.toNatClampNeg v2) (sT s 19 (Int32.toNatClampNeg ((v1 * (16 : Int32)) + v2))))) (sT s 19 (Int32.toNatClampNeg ((v1 * (16 : Int32)) + v2))) (sT s 20 (Int32.toNatClampNeg ((v1 * (16 : Int32)) + v2)))) v1 v2))))
def v_En_putSlotsBack_2 (fu : Nat) (lp : LT_En_putSlotsBack_2) (wlp : LW_En_putSlotsBack_2) (s : St) (v1 : Int32) (v2 : Int32) : Prop := ((cn2 .ge v2 (16 : Int32)) = true → True) ∧ ((cn2 .ge v2 (16 : Int32)) = false → (w_En_saves s v1 v2 ∧ ((cn1 .eq (b2i (f_En_saves s v1 v2))) = true → (wlp.2 s v1 v2)) ∧ ((cn1 .eq (b2i (f_En_saves s v1 v2))) = false → (vp_in ((v1 * (16 : Int32)) + v2) 2112 ∧ (vp_in v2 16 ∧ (tho (sD s) (sT s 19 (Int32.toNatClampNeg ((v1 * (16 : Int32)) + v2))) ∧ ((Option.isNone (sT s 19 (Int32.toNatClampNeg ((v1 * (16 : Int32)) + v2)))) = true → (wlp.2 (pT s 11 (va_up (sT s 11) (Int32.toNatClampNeg v2) (sT s 19 (Int32.toNatClampNeg ((v1 * (16 : Int32)) + v2))))) v1 v2)) ∧ ((Option.isNone (sT s 19 (Int32.toNatClampNeg ((v1 * (16 : Int32)) + v2)))) = false → (vp_in ((v1 * (16 : Int32)) + v2) 2112 ∧ (wu_putBack fu (pT s 11 (va_up (sT s 11) (Int32.toNatClampNeg v2) (sT s 19 (Int32.toNatClampNeg ((v1 * (16 : Int32)) + v2))))) (sT s 19 (Int32.toNatClampNeg ((v1 * (16 : Int32)) + v2))) (sT s 20 (Int32.toNatClampNeg ((v1 * (16 : Int32)) + v2))) ∧ (wlp.2 (u_putBack fu (pT s 11 (va_up (sT s 11) (Int32.toNatClampNeg v2) (sT s 19 (Int32.toNatClampNeg ((v1 * (16 : Int32)) + v2))))) (sT s 19 (Int32.toNatClampNeg ((v1 * (16 : Int32)) + v2))) (sT s 20 (Int32.toNatClampNeg ((v1 * (16 : Int32)) + v2)))) v1 v2))))))))))
theorem cb_En_putSlotsBack_2 {d : Nat} (fu : Nat) {lp : LT_En_putSlotsBack_2} {wlp : LW_En_putSlotsBack_2} (hlp : hl_En_putSlotsBack_2 (d + 2) lp wlp) (s : St) (v1 : Int32) (v2 : Int32) (hw : v_En_putSlotsBack_2 fu lp wlp s v1 v2) : X m_En_putSlotsBack (d + 2) 2 [some (.inr (.inr (some 12))), some (.inl v1), some (.inl v2), none] [] (hp s) (qVs (b_En_putSlotsBack_2 fu lp s v1 v2)) := by
  unfold b_En_putSlotsBack_2
  unfold v_En_putSlotsBack_2 at hw
  refine X_run 3 (i1 := cond (cn2 .ge v2 (16 : Int32)) 39 5) (L1 := [some (.inr (.inr (some 12))), some (.inl v1), some (.inl v2), none]) (st1 := []) rfl ?_
  refine X_brq (fun hb => ?_) (fun hb => ?_)
  · skip
    exact X_ret rfl rfl qVs_i
  · have hw := hw.2 hb
    refine X_run 3 (i1 := 8) (L1 := [some (.inr (.inr (some 12))), some (.inl v1), some (.inl v2), none]) (st1 := [.inl v2, .inl v1, .inr (.inr (some 12))]) rfl ?_
    obtain ⟨hc, hw⟩ := hw
    refine X_callv m_En_saves (As := [.inl v1, .inl v2]) (st := []) ok_En_saves rfl rfl rfl (hp_obj rfl) rfl (Nat.le_of_ble_eq_true rfl) (Nat.le_of_ble_eq_true rfl) (c_En_saves (d := d) s v1 v2 hc) ?_
    rintro _ _ ⟨rfl, rfl⟩
    show X _ _ 9 [some (.inr (.inr (some 12))), some (.inl v1), some (.inl v2), none] [.inl (b2i (f_En_saves s v1 v2))] (hp s) _
    refine X_run 1 (i1 := cond (cn1 .eq (b2i (f_En_saves s v1 v2))) 37 10) (L1 := [some (.inr (.inr (some 12))), some (.inl v1), some (.inl v2), none]) (st1 := []) rfl ?_
    refine X_brq (fun hb => ?_) (fun hb => ?_)
    · have hw := hw.1 hb
      exact hlp.2 s v1 v2 hw
    · have hw := hw.2 hb
      refine X_run 1 (i1 := 11) (L1 := [some (.inr (.inr (some 12))), some (.inl v1), some (.inl v2), none]) (st1 := [.inr (.inr (some 12))]) rfl ?_
      refine X_gF (v := .inr (.inr (some 19))) rfl rfl rfl rfl ?_
      refine X_run 5 (i1 := 17) (L1 := [some (.inr (.inr (some 12))), some (.inl v1), some (.inl v2), none]) (st1 := [.inl ((v1 * (16 : Int32)) + v2), .inr (.inr (some 19))]) rfl ?_
      obtain ⟨hin, hw⟩ := hw
      refine X_aR rfl rfl hin ?_
      show X _ _ 18 [some (.inr (.inr (some 12))), some (.inl v1), some (.inl v2), none] [.inr (.inr (sT s 19 (Int32.toNatClampNeg ((v1 * (16 : Int32)) + v2))))] (hp s) _
      refine X_run 2 (i1 := 20) (L1 := [some (.inr (.inr (some 12))), some (.inl v1), some (.inl v2), some (.inr (.inr (sT s 19 (Int32.toNatClampNeg ((v1 * (16 : Int32)) + v2)))))]) (st1 := [.inr (.inr (some 12))]) rfl ?_
      refine X_gF (v := .inr (.inr (some 8))) rfl rfl rfl rfl ?_
      refine X_gF (v := .inr (.inr (some 11))) rfl rfl rfl rfl ?_
      refine X_run 2 (i1 := 24) (L1 := [some (.inr (.inr (some 12))), some (.inl v1), some (.inl v2), some (.inr (.inr (sT s 19 (Int32.toNatClampNeg ((v1 * (16 : Int32)) + v2)))))]) (st1 := [.inr (.inr (sT s 19 (Int32.toNatClampNeg ((v1 * (16 : Int32)) + v2)))), .inl v2, .inr (.inr (some 11))]) rfl ?_
      obtain ⟨hin, hw⟩ := hw
      obtain ⟨hv, hw⟩ := hw
      refine X_sRt rfl rfl hin hv ?_
      show X _ _ 25 [some (.inr (.inr (some 12))), some (.inl v1), some (.inl v2), some (.inr (.inr (sT s 19 (Int32.toNatClampNeg ((v1 * (16 : Int32)) + v2)))))] [] (hp (pT s 11 (va_up (sT s 11) (Int32.toNatClampNeg v2) (sT s 19 (Int32.toNatClampNeg ((v1 * (16 : Int32)) + v2)))))) _
      refine X_run 2 (i1 := cond (Option.isNone (sT s 19 (Int32.toNatClampNeg ((v1 * (16 : Int32)) + v2)))) 37 27) (L1 := [some (.inr (.inr (some 12))), some (.inl v1), some (.inl v2), some (.inr (.inr (sT s 19 (Int32.toNatClampNeg ((v1 * (16 : Int32)) + v2)))))]) (st1 := []) rfl ?_
      refine X_brq (fun hb => ?_) (fun hb => ?_)
      · have hw := hw.1 hb
        refine X_mask [true, true, true, false] ?_
        exact hlp.2 (pT s 11 (va_up (sT s 11) (Int32.toNatClampNeg v2) (sT s 19 (Int32.toNatClampNeg ((v1 * (16 : Int32)) + v2))))) v1 v2 hw
      · have hw := hw.2 hb
        refine X_run 2 (i1 := 29) (L1 := [some (.inr (.inr (some 12))), some (.inl v1), some (.inl v2), some (.inr (.inr (sT s 19 (Int32.toNatClampNeg ((v1 * (16 : Int32)) + v2)))))]) (st1 := [.inr (.inr (some 12)), .inr (.inr (sT s 19 (Int32.toNatClampNeg ((v1 * (16 : Int32)) + v2))))]) rfl ?_
        refine X_gF (v := .inr (.inr (some 20))) rfl rfl rfl rfl ?_
        refine X_run 5 (i1 := 35) (L1 := [some (.inr (.inr (some 12))), some (.inl v1), some (.inl v2), some (.inr (.inr (sT s 19 (Int32.toNatClampNeg ((v1 * (16 : Int32)) + v2)))))]) (st1 := [.inl ((v1 * (16 : Int32)) + v2), .inr (.inr (some 20)), .inr (.inr (sT s 19 (Int32.toNatClampNeg ((v1 * (16 : Int32)) + v2))))]) rfl ?_
        obtain ⟨hin, hw⟩ := hw
        refine X_aR rfl rfl hin ?_
        show X _ _ 36 [some (.inr (.inr (some 12))), some (.inl v1), some (.inl v2), some (.inr (.inr (sT s 19 (Int32.toNatClampNeg ((v1 * (16 : Int32)) + v2)))))] [.inr (.inr (sT s 20 (Int32.toNatClampNeg ((v1 * (16 : Int32)) + v2)))), .inr (.inr (sT s 19 (Int32.toNatClampNeg ((v1 * (16 : Int32)) + v2))))] (hp (pT s 11 (va_up (sT s 11) (Int32.toNatClampNeg v2) (sT s 19 (Int32.toNatClampNeg ((v1 * (16 : Int32)) + v2)))))) _
        obtain ⟨hc, hw⟩ := hw
        refine X_uputBack (d := d) rfl (Nat.le_of_ble_eq_true rfl) hc ?_
        show X _ _ 37 [some (.inr (.inr (some 12))), some (.inl v1), some (.inl v2), some (.inr (.inr (sT s 19 (Int32.toNatClampNeg ((v1 * (16 : Int32)) + v2)))))] [] (hp (u_putBack fu (pT s 11 (va_up (sT s 11) (Int32.toNatClampNeg v2) (sT s 19 (Int32.toNatClampNeg ((v1 * (16 : Int32)) + v2))))) (sT s 19 (Int32.toNatClampNeg ((v1 * (16 : Int32)) + v2))) (sT s 20 (Int32.toNatClampNeg ((v1 * (16 : Int32)) + v2))))) _
        show X _ _ 37 [some (.inr (.inr (some 12))), some (.inl v1), some (.inl v2), some (.inr (.inr (sT s 19 (Int32.toNatClampNeg ((v1 * (16 : Int32)) + v2)))))] [] (hp (u_putBack fu (pT s 11 (va_up (sT s 11) (Int32.toNatClampNeg v2) (sT s 19 (Int32.toNatClampNeg ((v1 * (16 : Int32)) + v2))))) (sT s 19 (Int32.toNatClampNeg ((v1 * (16 : Int32)) + v2))) (sT s 20 (Int32.toNatClampNeg ((v1 * (16 : Int32)) + v2))))) _
        refine X_mask [true, true, true, false] ?_
        exact hlp.2 (u_putBack fu (pT s 11 (va_up (sT s 11) (Int32.toNatClampNeg v2) (sT s 19 (Int32.toNatClampNeg ((v1 * (16 : Int32)) + v2))))) (sT s 19 (Int32.toNatClampNeg ((v1 * (16 : Int32)) + v2))) (sT s 20 (Int32.toNatClampNeg ((v1 * (16 : Int32)) + v2)))) v1 v2 hw
def b_En_putSlotsBack_37 (fu : Nat) (lp : LT_En_putSlotsBack_2) (s : St) (v1 : Int32) (v2 : Int32) : St := (lp.1 s v1 (v2 + Int32.ofInt (1)))
def v_En_putSlotsBack_37 (fu : Nat) (lp : LT_En_putSlotsBack_2) (wlp : LW_En_putSlotsBack_2) (s : St) (v1 : Int32) (v2 : Int32) : Prop := (wlp.1 s v1 (v2 + Int32.ofInt (1)))
theorem cb_En_putSlotsBack_37 {d : Nat} (fu : Nat) {lp : LT_En_putSlotsBack_2} {wlp : LW_En_putSlotsBack_2} (hlp : hl_En_putSlotsBack_2 (d + 2) lp wlp) (s : St) (v1 : Int32) (v2 : Int32) (hw : v_En_putSlotsBack_37 fu lp wlp s v1 v2) : X m_En_putSlotsBack (d + 2) 37 [some (.inr (.inr (some 12))), some (.inl v1), some (.inl v2), none] [] (hp s) (qVs (b_En_putSlotsBack_37 fu lp s v1 v2)) := by
  unfold b_En_putSlotsBack_37
  unfold v_En_putSlotsBack_37 at hw
  refine X_run 2 (i1 := 2) (L1 := [some (.inr (.inr (some 12))), some (.inl v1), some (.inl (v2 + Int32.ofInt (1))), none]) (st1 := []) rfl ?_
  exact hlp.1 s v1 (v2 + Int32.ofInt (1)) hw
def T_En_putSlotsBack_2 (fu : Nat) : Nat → LT_En_putSlotsBack_2
  | 0 => (fun s _ _ => s, fun s _ _ => s)
  | n + 1 => (fun s v1 v2 => b_En_putSlotsBack_2 fu (T_En_putSlotsBack_2 fu n) s v1 v2, fun s v1 v2 => b_En_putSlotsBack_37 fu (T_En_putSlotsBack_2 fu n) s v1 v2)
def WT_En_putSlotsBack_2 (fu : Nat) : Nat → LW_En_putSlotsBack_2
  | 0 => (fun _ _ _ => False, fun _ _ _ => False)
  | n + 1 => (fun s v1 v2 => v_En_putSlotsBack_2 fu (T_En_putSlotsBack_2 fu n) (WT_En_putSlotsBack_2 fu n) s v1 v2, fun s v1 v2 => v_En_putSlotsBack_37 fu (T_En_putSlotsBack_2 fu n) (WT_En_putSlotsBack_2 fu n) s v1 v2)
theorem cT_En_putSlotsBack_2 {d : Nat} (fu : Nat) : ∀ n : Nat, hl_En_putSlotsBack_2 (d + 2) (T_En_putSlotsBack_2 fu n) (WT_En_putSlotsBack_2 fu n)
  | 0 => ⟨fun _ _ _ hw => hw.elim, fun _ _ _ hw => hw.elim⟩
  | n + 1 => ⟨fun s v1 v2 hw => cb_En_putSlotsBack_2 fu (cT_En_putSlotsBack_2 fu n) s v1 v2 hw, fun s v1 v2 hw => cb_En_putSlotsBack_37 fu (cT_En_putSlotsBack_2 fu n) s v1 v2 hw⟩
def f_En_putSlotsBack (fu : Nat) (s : St) (a0 : Int32) : St := ((T_En_putSlotsBack_2 fu fu).1 s a0 (0 : Int32))
def w_En_putSlotsBack (fu : Nat) (s : St) (a0 : Int32) : Prop := ((WT_En_putSlotsBack_2 fu fu).1 s a0 (0 : Int32))
theorem c_En_putSlotsBack {d : Nat} (fu : Nat) (s : St) (a0 : Int32) (hw : w_En_putSlotsBack fu s a0) : X m_En_putSlotsBack (d + 2) 0 (entL 4 [.inr (.inr (some 12)), .inl a0]) [] (hp s) (qVs (f_En_putSlotsBack fu s a0)) := by
  unfold f_En_putSlotsBack
  unfold w_En_putSlotsBack at hw
  refine X_run 2 (i1 := 2) (L1 := [some (.inr (.inr (some 12))), some (.inl a0), some (.inl (0 : Int32)), none]) (st1 := []) rfl ?_
  exact (cT_En_putSlotsBack_2 fu fu).1 s a0 (0 : Int32) hw
def t_En_beginFurtherRound_17 (s : St) (v1 : Int32) (v2 : Int32) (w0 : Int32) : St := (cond (cn1 .eq w0) s (pA s 15 (upd (sA s 15) (Int32.toNatClampNeg v1) ((sA s 16 (Int32.toNatClampNeg v1)) - (f_En_byteAt s (v2 + (2 : Int32)))))))
def w_En_beginFurtherRound_17 (s : St) (v1 : Int32) (v2 : Int32) (w0 : Int32) : Prop := ((cn1 .eq w0) = true → True) ∧ ((cn1 .eq w0) = false → (vp_in v1 132 ∧ (w_En_byteAt s (v2 + (2 : Int32)) ∧ (vp_in v1 132 ∧ True))))
theorem ct_En_beginFurtherRound_17 {d : Nat} (s : St) (v1 : Int32) (v2 : Int32) (w0 : Int32) (hw : w_En_beginFurtherRound_17 s v1 v2 w0) : X m_En_beginFurtherRound (d + 2) 17 [some (.inr (.inr (some 12))), some (.inl v1), some (.inl v2)] [.inl w0] (hp s) (qVs (t_En_beginFurtherRound_17 s v1 v2 w0)) := by
  unfold t_En_beginFurtherRound_17
  unfold w_En_beginFurtherRound_17 at hw
  refine X_run 1 (i1 := cond (cn1 .eq w0) 32 18) (L1 := [some (.inr (.inr (some 12))), some (.inl v1), some (.inl v2)]) (st1 := []) rfl ?_
  refine X_brq (fun hb => ?_) (fun hb => ?_)
  · skip
    exact X_ret rfl rfl qVs_i
  · have hw := hw.2 hb
    refine X_run 1 (i1 := 19) (L1 := [some (.inr (.inr (some 12))), some (.inl v1), some (.inl v2)]) (st1 := [.inr (.inr (some 12))]) rfl ?_
    refine X_gF (v := .inr (.inr (some 15))) rfl rfl rfl rfl ?_
    refine X_run 2 (i1 := 22) (L1 := [some (.inr (.inr (some 12))), some (.inl v1), some (.inl v2)]) (st1 := [.inr (.inr (some 12)), .inl v1, .inr (.inr (some 15))]) rfl ?_
    refine X_gF (v := .inr (.inr (some 16))) rfl rfl rfl rfl ?_
    refine X_run 1 (i1 := 24) (L1 := [some (.inr (.inr (some 12))), some (.inl v1), some (.inl v2)]) (st1 := [.inl v1, .inr (.inr (some 16)), .inl v1, .inr (.inr (some 15))]) rfl ?_
    obtain ⟨hin, hw⟩ := hw
    refine X_aI rfl rfl hin ?_
    show X _ _ 25 [some (.inr (.inr (some 12))), some (.inl v1), some (.inl v2)] [.inl (sA s 16 (Int32.toNatClampNeg v1)), .inl v1, .inr (.inr (some 15))] (hp s) _
    refine X_run 4 (i1 := 29) (L1 := [some (.inr (.inr (some 12))), some (.inl v1), some (.inl v2)]) (st1 := [.inl (v2 + (2 : Int32)), .inr (.inr (some 12)), .inl (sA s 16 (Int32.toNatClampNeg v1)), .inl v1, .inr (.inr (some 15))]) rfl ?_
    obtain ⟨hc, hw⟩ := hw
    refine X_callv m_En_byteAt (As := [.inl (v2 + (2 : Int32))]) (st := [.inl (sA s 16 (Int32.toNatClampNeg v1)), .inl v1, .inr (.inr (some 15))]) ok_En_byteAt rfl rfl rfl (hp_obj rfl) rfl (Nat.le_of_ble_eq_true rfl) (Nat.le_of_ble_eq_true rfl) (c_En_byteAt (d := d + 1) s (v2 + (2 : Int32)) hc) ?_
    rintro _ _ ⟨rfl, rfl⟩
    show X _ _ 30 [some (.inr (.inr (some 12))), some (.inl v1), some (.inl v2)] [.inl (f_En_byteAt s (v2 + (2 : Int32))), .inl (sA s 16 (Int32.toNatClampNeg v1)), .inl v1, .inr (.inr (some 15))] (hp s) _
    refine X_run 1 (i1 := 31) (L1 := [some (.inr (.inr (some 12))), some (.inl v1), some (.inl v2)]) (st1 := [.inl ((sA s 16 (Int32.toNatClampNeg v1)) - (f_En_byteAt s (v2 + (2 : Int32)))), .inl v1, .inr (.inr (some 15))]) rfl ?_
    obtain ⟨hin, hw⟩ := hw
    refine X_sI rfl rfl hin ?_
    show X _ _ 32 [some (.inr (.inr (some 12))), some (.inl v1), some (.inl v2)] [] (hp (pA s 15 (upd (sA s 15) (Int32.toNatClampNeg v1) ((sA s 16 (Int32.toNatClampNeg v1)) - (f_En_byteAt s (v2 + (2 : Int32))))))) _
    exact X_ret rfl rfl qVs_i
def f_En_beginFurtherRound (s : St) (a0 : Int32) : St := (cond (cn1 .ne (b2i (f_En_isOn s (sA s 14 (Int32.toNatClampNeg a0))))) (t_En_beginFurtherRound_17 ((f_Le_burn s (1 : Int64)).2) a0 (sA s 14 (Int32.toNatClampNeg a0)) (b2i (f_Le_burn s (1 : Int64)).1)) (f_En_pop s a0))
def w_En_beginFurtherRound (s : St) (a0 : Int32) : Prop := (vp_in a0 132 ∧ (w_En_isOn s (sA s 14 (Int32.toNatClampNeg a0)) ∧ ((cn1 .ne (b2i (f_En_isOn s (sA s 14 (Int32.toNatClampNeg a0))))) = true → (w_Le_burn s (1 : Int64) ∧ (w_En_beginFurtherRound_17 ((f_Le_burn s (1 : Int64)).2) a0 (sA s 14 (Int32.toNatClampNeg a0)) (b2i (f_Le_burn s (1 : Int64)).1)))) ∧ ((cn1 .ne (b2i (f_En_isOn s (sA s 14 (Int32.toNatClampNeg a0))))) = false → (w_En_pop s a0 ∧ True))))
theorem c_En_beginFurtherRound {d : Nat} (s : St) (a0 : Int32) (hw : w_En_beginFurtherRound s a0) : X m_En_beginFurtherRound (d + 2) 0 (entL 3 [.inr (.inr (some 12)), .inl a0]) [] (hp s) (qVs (f_En_beginFurtherRound s a0)) := by
  unfold f_En_beginFurtherRound
  unfold w_En_beginFurtherRound at hw
  refine X_run 1 (i1 := 1) (L1 := [some (.inr (.inr (some 12))), some (.inl a0), none]) (st1 := [.inr (.inr (some 12))]) rfl ?_
  refine X_gF (v := .inr (.inr (some 14))) rfl rfl rfl rfl ?_
  refine X_run 1 (i1 := 3) (L1 := [some (.inr (.inr (some 12))), some (.inl a0), none]) (st1 := [.inl a0, .inr (.inr (some 14))]) rfl ?_
  obtain ⟨hin, hw⟩ := hw
  refine X_aI rfl rfl hin ?_
  show X _ _ 4 [some (.inr (.inr (some 12))), some (.inl a0), none] [.inl (sA s 14 (Int32.toNatClampNeg a0))] (hp s) _
  refine X_run 3 (i1 := 7) (L1 := [some (.inr (.inr (some 12))), some (.inl a0), some (.inl (sA s 14 (Int32.toNatClampNeg a0)))]) (st1 := [.inl (sA s 14 (Int32.toNatClampNeg a0)), .inr (.inr (some 12))]) rfl ?_
  obtain ⟨hc, hw⟩ := hw
  refine X_callv m_En_isOn (As := [.inl (sA s 14 (Int32.toNatClampNeg a0))]) (st := []) ok_En_isOn rfl rfl rfl (hp_obj rfl) rfl (Nat.le_of_ble_eq_true rfl) (Nat.le_of_ble_eq_true rfl) (c_En_isOn (d := d) s (sA s 14 (Int32.toNatClampNeg a0)) hc) ?_
  rintro _ _ ⟨rfl, rfl⟩
  show X _ _ 8 [some (.inr (.inr (some 12))), some (.inl a0), some (.inl (sA s 14 (Int32.toNatClampNeg a0)))] [.inl (b2i (f_En_isOn s (sA s 14 (Int32.toNatClampNeg a0))))] (hp s) _
  refine X_run 1 (i1 := cond (cn1 .ne (b2i (f_En_isOn s (sA s 14 (Int32.toNatClampNeg a0))))) 13 9) (L1 := [some (.inr (.inr (some 12))), some (.inl a0), some (.inl (sA s 14 (Int32.toNatClampNeg a0)))]) (st1 := []) rfl ?_
  refine X_brq (fun hb => ?_) (fun hb => ?_)
  · have hw := hw.1 hb
    refine X_run 1 (i1 := 14) (L1 := [some (.inr (.inr (some 12))), some (.inl a0), some (.inl (sA s 14 (Int32.toNatClampNeg a0)))]) (st1 := [.inr (.inr (some 12))]) rfl ?_
    refine X_gF (v := .inr (.inr (some 1))) rfl rfl rfl rfl ?_
    refine X_run 1 (i1 := 16) (L1 := [some (.inr (.inr (some 12))), some (.inl a0), some (.inl (sA s 14 (Int32.toNatClampNeg a0)))]) (st1 := [.inr (.inl (1 : Int64)), .inr (.inr (some 1))]) rfl ?_
    obtain ⟨hc, hw⟩ := hw
    refine X_callv m_Le_burn (As := [.inr (.inl (1 : Int64))]) (st := []) ok_Le_burn rfl rfl rfl (hp_obj rfl) rfl (Nat.le_of_ble_eq_true rfl) (Nat.le_of_ble_eq_true rfl) (c_Le_burn (d := d + 1) s (1 : Int64) hc) ?_
    rintro _ _ ⟨rfl, rfl⟩
    show X _ _ 17 [some (.inr (.inr (some 12))), some (.inl a0), some (.inl (sA s 14 (Int32.toNatClampNeg a0)))] [.inl (b2i (f_Le_burn s (1 : Int64)).1)] (hp ((f_Le_burn s (1 : Int64)).2)) _
    show X _ _ 17 [some (.inr (.inr (some 12))), some (.inl a0), some (.inl (sA s 14 (Int32.toNatClampNeg a0)))] [.inl (b2i (f_Le_burn s (1 : Int64)).1)] (hp ((f_Le_burn s (1 : Int64)).2)) _
    exact ct_En_beginFurtherRound_17 ((f_Le_burn s (1 : Int64)).2) a0 (sA s 14 (Int32.toNatClampNeg a0)) (b2i (f_Le_burn s (1 : Int64)).1) hw
  · have hw := hw.2 hb
    refine X_run 2 (i1 := 11) (L1 := [some (.inr (.inr (some 12))), some (.inl a0), some (.inl (sA s 14 (Int32.toNatClampNeg a0)))]) (st1 := [.inl a0, .inr (.inr (some 12))]) rfl ?_
    obtain ⟨hc, hw⟩ := hw
    refine X_callv m_En_pop (As := [.inl a0]) (st := []) ok_En_pop rfl rfl rfl (hp_obj rfl) rfl (Nat.le_of_ble_eq_true rfl) (Nat.le_of_ble_eq_true rfl) (c_En_pop (d := d + 1) s a0 hc) ?_
    rintro _ _ ⟨rfl, rfl⟩
    show X _ _ 12 [some (.inr (.inr (some 12))), some (.inl a0), some (.inl (sA s 14 (Int32.toNatClampNeg a0)))] [] (hp (f_En_pop s a0)) _
    refine X_run 1 (i1 := 32) (L1 := [some (.inr (.inr (some 12))), some (.inl a0), some (.inl (sA s 14 (Int32.toNatClampNeg a0)))]) (st1 := []) rfl ?_
    exact X_ret rfl rfl qVs_i
def t_En_beginAlways_48 (s : St) (v1 : Int32) (v3 : Int32) : St := (pA s 18 (upd (sA s 18) (Int32.toNatClampNeg v1) v3))
def w_En_beginAlways_48 (s : St) (v1 : Int32) (v3 : Int32) : Prop := (vp_in v1 132 ∧ True)
theorem ct_En_beginAlways_48 {d : Nat} (s : St) (v1 : Int32) (v3 : Int32) (hw : w_En_beginAlways_48 s v1 v3) : X m_En_beginAlways (d + 1) 48 [some (.inr (.inr (some 12))), some (.inl v1), none, some (.inl v3), none] [] (hp s) (qVs (t_En_beginAlways_48 s v1 v3)) := by
  unfold t_En_beginAlways_48
  unfold w_En_beginAlways_48 at hw
  refine X_run 1 (i1 := 49) (L1 := [some (.inr (.inr (some 12))), some (.inl v1), none, some (.inl v3), none]) (st1 := [.inr (.inr (some 12))]) rfl ?_
  refine X_gF (v := .inr (.inr (some 18))) rfl rfl rfl rfl ?_
  refine X_run 2 (i1 := 52) (L1 := [some (.inr (.inr (some 12))), some (.inl v1), none, some (.inl v3), none]) (st1 := [.inl v3, .inl v1, .inr (.inr (some 18))]) rfl ?_
  obtain ⟨hin, hw⟩ := hw
  refine X_sI rfl rfl hin ?_
  show X _ _ 53 [some (.inr (.inr (some 12))), some (.inl v1), none, some (.inl v3), none] [] (hp (pA s 18 (upd (sA s 18) (Int32.toNatClampNeg v1) v3))) _
  exact X_ret rfl rfl qVs_i
def t_En_beginAlways_29 (s : St) (v1 : Int32) (v2 : Int32) (v3 : Int32) (v4 : Int32) : St := (t_En_beginAlways_48 (pA (pA s 16 (upd (sA s 16) (Int32.toNatClampNeg v1) ((sA s 15 (Int32.toNatClampNeg v1)) + (f_En_byteAt s (v4 + (6 : Int32)))))) 17 (upd (sA s 17) (Int32.toNatClampNeg v1) v2)) v1 v3)
def w_En_beginAlways_29 (s : St) (v1 : Int32) (v2 : Int32) (v3 : Int32) (v4 : Int32) : Prop := (vp_in v1 132 ∧ (w_En_byteAt s (v4 + (6 : Int32)) ∧ (vp_in v1 132 ∧ (vp_in v1 132 ∧ (w_En_beginAlways_48 (pA (pA s 16 (upd (sA s 16) (Int32.toNatClampNeg v1) ((sA s 15 (Int32.toNatClampNeg v1)) + (f_En_byteAt s (v4 + (6 : Int32)))))) 17 (upd (sA s 17) (Int32.toNatClampNeg v1) v2)) v1 v3)))))
theorem ct_En_beginAlways_29 {d : Nat} (s : St) (v1 : Int32) (v2 : Int32) (v3 : Int32) (v4 : Int32) (hw : w_En_beginAlways_29 s v1 v2 v3 v4) : X m_En_beginAlways (d + 1) 29 [some (.inr (.inr (some 12))), some (.inl v1), some (.inl v2), some (.inl v3), some (.inl v4)] [] (hp s) (qVs (t_En_beginAlways_29 s v1 v2 v3 v4)) := by
  unfold t_En_beginAlways_29
  unfold w_En_beginAlways_29 at hw
  refine X_run 1 (i1 := 30) (L1 := [some (.inr (.inr (some 12))), some (.inl v1), some (.inl v2), some (.inl v3), some (.inl v4)]) (st1 := [.inr (.inr (some 12))]) rfl ?_
  refine X_gF (v := .inr (.inr (some 16))) rfl rfl rfl rfl ?_
  refine X_run 2 (i1 := 33) (L1 := [some (.inr (.inr (some 12))), some (.inl v1), some (.inl v2), some (.inl v3), some (.inl v4)]) (st1 := [.inr (.inr (some 12)), .inl v1, .inr (.inr (some 16))]) rfl ?_
  refine X_gF (v := .inr (.inr (some 15))) rfl rfl rfl rfl ?_
  refine X_run 1 (i1 := 35) (L1 := [some (.inr (.inr (some 12))), some (.inl v1), some (.inl v2), some (.inl v3), some (.inl v4)]) (st1 := [.inl v1, .inr (.inr (some 15)), .inl v1, .inr (.inr (some 16))]) rfl ?_
  obtain ⟨hin, hw⟩ := hw
  refine X_aI rfl rfl hin ?_
  show X _ _ 36 [some (.inr (.inr (some 12))), some (.inl v1), some (.inl v2), some (.inl v3), some (.inl v4)] [.inl (sA s 15 (Int32.toNatClampNeg v1)), .inl v1, .inr (.inr (some 16))] (hp s) _
  refine X_run 4 (i1 := 40) (L1 := [some (.inr (.inr (some 12))), some (.inl v1), some (.inl v2), some (.inl v3), some (.inl v4)]) (st1 := [.inl (v4 + (6 : Int32)), .inr (.inr (some 12)), .inl (sA s 15 (Int32.toNatClampNeg v1)), .inl v1, .inr (.inr (some 16))]) rfl ?_
  obtain ⟨hc, hw⟩ := hw
  refine X_callv m_En_byteAt (As := [.inl (v4 + (6 : Int32))]) (st := [.inl (sA s 15 (Int32.toNatClampNeg v1)), .inl v1, .inr (.inr (some 16))]) ok_En_byteAt rfl rfl rfl (hp_obj rfl) rfl (Nat.le_of_ble_eq_true rfl) (Nat.le_of_ble_eq_true rfl) (c_En_byteAt (d := d) s (v4 + (6 : Int32)) hc) ?_
  rintro _ _ ⟨rfl, rfl⟩
  show X _ _ 41 [some (.inr (.inr (some 12))), some (.inl v1), some (.inl v2), some (.inl v3), some (.inl v4)] [.inl (f_En_byteAt s (v4 + (6 : Int32))), .inl (sA s 15 (Int32.toNatClampNeg v1)), .inl v1, .inr (.inr (some 16))] (hp s) _
  refine X_run 1 (i1 := 42) (L1 := [some (.inr (.inr (some 12))), some (.inl v1), some (.inl v2), some (.inl v3), some (.inl v4)]) (st1 := [.inl ((sA s 15 (Int32.toNatClampNeg v1)) + (f_En_byteAt s (v4 + (6 : Int32)))), .inl v1, .inr (.inr (some 16))]) rfl ?_
  obtain ⟨hin, hw⟩ := hw
  refine X_sI rfl rfl hin ?_
  show X _ _ 43 [some (.inr (.inr (some 12))), some (.inl v1), some (.inl v2), some (.inl v3), some (.inl v4)] [] (hp (pA s 16 (upd (sA s 16) (Int32.toNatClampNeg v1) ((sA s 15 (Int32.toNatClampNeg v1)) + (f_En_byteAt s (v4 + (6 : Int32))))))) _
  refine X_run 1 (i1 := 44) (L1 := [some (.inr (.inr (some 12))), some (.inl v1), some (.inl v2), some (.inl v3), some (.inl v4)]) (st1 := [.inr (.inr (some 12))]) rfl ?_
  refine X_gF (v := .inr (.inr (some 17))) rfl rfl rfl rfl ?_
  refine X_run 2 (i1 := 47) (L1 := [some (.inr (.inr (some 12))), some (.inl v1), some (.inl v2), some (.inl v3), some (.inl v4)]) (st1 := [.inl v2, .inl v1, .inr (.inr (some 17))]) rfl ?_
  obtain ⟨hin, hw⟩ := hw
  refine X_sI rfl rfl hin ?_
  show X _ _ 48 [some (.inr (.inr (some 12))), some (.inl v1), some (.inl v2), some (.inl v3), some (.inl v4)] [] (hp (pA (pA s 16 (upd (sA s 16) (Int32.toNatClampNeg v1) ((sA s 15 (Int32.toNatClampNeg v1)) + (f_En_byteAt s (v4 + (6 : Int32)))))) 17 (upd (sA s 17) (Int32.toNatClampNeg v1) v2))) _
  show X _ _ 48 [some (.inr (.inr (some 12))), some (.inl v1), some (.inl v2), some (.inl v3), some (.inl v4)] [] (hp (pA (pA s 16 (upd (sA s 16) (Int32.toNatClampNeg v1) ((sA s 15 (Int32.toNatClampNeg v1)) + (f_En_byteAt s (v4 + (6 : Int32)))))) 17 (upd (sA s 17) (Int32.toNatClampNeg v1) v2))) _
  refine X_mask [true, true, false, true, false] ?_
  exact ct_En_beginAlways_48 (pA (pA s 16 (upd (sA s 16) (Int32.toNatClampNeg v1) ((sA s 15 (Int32.toNatClampNeg v1)) + (f_En_byteAt s (v4 + (6 : Int32)))))) 17 (upd (sA s 17) (Int32.toNatClampNeg v1) v2)) v1 v3 hw
def f_En_beginAlways (s : St) (a0 : Int32) (a1 : Int32) (a2 : Int32) : St := (t_En_beginAlways_29 (pA (pA s 13 (upd (sA s 13) (Int32.toNatClampNeg a0) (5 : Int32))) 15 (upd (sA s 15) (Int32.toNatClampNeg a0) ((((sA s 14 (Int32.toNatClampNeg a0)) + (7 : Int32)) + (f_En_byteAt (pA s 13 (upd (sA s 13) (Int32.toNatClampNeg a0) (5 : Int32))) ((sA s 14 (Int32.toNatClampNeg a0)) + (4 : Int32)))) + (f_En_byteAt (pA s 13 (upd (sA s 13) (Int32.toNatClampNeg a0) (5 : Int32))) ((sA s 14 (Int32.toNatClampNeg a0)) + (5 : Int32)))))) a0 a1 a2 (sA s 14 (Int32.toNatClampNeg a0)))
def w_En_beginAlways (s : St) (a0 : Int32) (a1 : Int32) (a2 : Int32) : Prop := (vp_in a0 132 ∧ (vp_in a0 132 ∧ (w_En_byteAt (pA s 13 (upd (sA s 13) (Int32.toNatClampNeg a0) (5 : Int32))) ((sA s 14 (Int32.toNatClampNeg a0)) + (4 : Int32)) ∧ (w_En_byteAt (pA s 13 (upd (sA s 13) (Int32.toNatClampNeg a0) (5 : Int32))) ((sA s 14 (Int32.toNatClampNeg a0)) + (5 : Int32)) ∧ (vp_in a0 132 ∧ (w_En_beginAlways_29 (pA (pA s 13 (upd (sA s 13) (Int32.toNatClampNeg a0) (5 : Int32))) 15 (upd (sA s 15) (Int32.toNatClampNeg a0) ((((sA s 14 (Int32.toNatClampNeg a0)) + (7 : Int32)) + (f_En_byteAt (pA s 13 (upd (sA s 13) (Int32.toNatClampNeg a0) (5 : Int32))) ((sA s 14 (Int32.toNatClampNeg a0)) + (4 : Int32)))) + (f_En_byteAt (pA s 13 (upd (sA s 13) (Int32.toNatClampNeg a0) (5 : Int32))) ((sA s 14 (Int32.toNatClampNeg a0)) + (5 : Int32)))))) a0 a1 a2 (sA s 14 (Int32.toNatClampNeg a0))))))))
theorem c_En_beginAlways {d : Nat} (s : St) (a0 : Int32) (a1 : Int32) (a2 : Int32) (hw : w_En_beginAlways s a0 a1 a2) : X m_En_beginAlways (d + 1) 0 (entL 5 [.inr (.inr (some 12)), .inl a0, .inl a1, .inl a2]) [] (hp s) (qVs (f_En_beginAlways s a0 a1 a2)) := by
  unfold f_En_beginAlways
  unfold w_En_beginAlways at hw
  refine X_run 1 (i1 := 1) (L1 := [some (.inr (.inr (some 12))), some (.inl a0), some (.inl a1), some (.inl a2), none]) (st1 := [.inr (.inr (some 12))]) rfl ?_
  refine X_gF (v := .inr (.inr (some 14))) rfl rfl rfl rfl ?_
  refine X_run 1 (i1 := 3) (L1 := [some (.inr (.inr (some 12))), some (.inl a0), some (.inl a1), some (.inl a2), none]) (st1 := [.inl a0, .inr (.inr (some 14))]) rfl ?_
  obtain ⟨hin, hw⟩ := hw
  refine X_aI rfl rfl hin ?_
  show X _ _ 4 [some (.inr (.inr (some 12))), some (.inl a0), some (.inl a1), some (.inl a2), none] [.inl (sA s 14 (Int32.toNatClampNeg a0))] (hp s) _
  refine X_run 2 (i1 := 6) (L1 := [some (.inr (.inr (some 12))), some (.inl a0), some (.inl a1), some (.inl a2), some (.inl (sA s 14 (Int32.toNatClampNeg a0)))]) (st1 := [.inr (.inr (some 12))]) rfl ?_
  refine X_gF (v := .inr (.inr (some 13))) rfl rfl rfl rfl ?_
  refine X_run 2 (i1 := 9) (L1 := [some (.inr (.inr (some 12))), some (.inl a0), some (.inl a1), some (.inl a2), some (.inl (sA s 14 (Int32.toNatClampNeg a0)))]) (st1 := [.inl (5 : Int32), .inl a0, .inr (.inr (some 13))]) rfl ?_
  obtain ⟨hin, hw⟩ := hw
  refine X_sI rfl rfl hin ?_
  show X _ _ 10 [some (.inr (.inr (some 12))), some (.inl a0), some (.inl a1), some (.inl a2), some (.inl (sA s 14 (Int32.toNatClampNeg a0)))] [] (hp (pA s 13 (upd (sA s 13) (Int32.toNatClampNeg a0) (5 : Int32)))) _
  refine X_run 1 (i1 := 11) (L1 := [some (.inr (.inr (some 12))), some (.inl a0), some (.inl a1), some (.inl a2), some (.inl (sA s 14 (Int32.toNatClampNeg a0)))]) (st1 := [.inr (.inr (some 12))]) rfl ?_
  refine X_gF (v := .inr (.inr (some 15))) rfl rfl rfl rfl ?_
  refine X_run 8 (i1 := 20) (L1 := [some (.inr (.inr (some 12))), some (.inl a0), some (.inl a1), some (.inl a2), some (.inl (sA s 14 (Int32.toNatClampNeg a0)))]) (st1 := [.inl ((sA s 14 (Int32.toNatClampNeg a0)) + (4 : Int32)), .inr (.inr (some 12)), .inl ((sA s 14 (Int32.toNatClampNeg a0)) + (7 : Int32)), .inl a0, .inr (.inr (some 15))]) rfl ?_
  obtain ⟨hc, hw⟩ := hw
  refine X_callv m_En_byteAt (As := [.inl ((sA s 14 (Int32.toNatClampNeg a0)) + (4 : Int32))]) (st := [.inl ((sA s 14 (Int32.toNatClampNeg a0)) + (7 : Int32)), .inl a0, .inr (.inr (some 15))]) ok_En_byteAt rfl rfl rfl (hp_obj rfl) rfl (Nat.le_of_ble_eq_true rfl) (Nat.le_of_ble_eq_true rfl) (c_En_byteAt (d := d) (pA s 13 (upd (sA s 13) (Int32.toNatClampNeg a0) (5 : Int32))) ((sA s 14 (Int32.toNatClampNeg a0)) + (4 : Int32)) hc) ?_
  rintro _ _ ⟨rfl, rfl⟩
  show X _ _ 21 [some (.inr (.inr (some 12))), some (.inl a0), some (.inl a1), some (.inl a2), some (.inl (sA s 14 (Int32.toNatClampNeg a0)))] [.inl (f_En_byteAt (pA s 13 (upd (sA s 13) (Int32.toNatClampNeg a0) (5 : Int32))) ((sA s 14 (Int32.toNatClampNeg a0)) + (4 : Int32))), .inl ((sA s 14 (Int32.toNatClampNeg a0)) + (7 : Int32)), .inl a0, .inr (.inr (some 15))] (hp (pA s 13 (upd (sA s 13) (Int32.toNatClampNeg a0) (5 : Int32)))) _
  refine X_run 5 (i1 := 26) (L1 := [some (.inr (.inr (some 12))), some (.inl a0), some (.inl a1), some (.inl a2), some (.inl (sA s 14 (Int32.toNatClampNeg a0)))]) (st1 := [.inl ((sA s 14 (Int32.toNatClampNeg a0)) + (5 : Int32)), .inr (.inr (some 12)), .inl (((sA s 14 (Int32.toNatClampNeg a0)) + (7 : Int32)) + (f_En_byteAt (pA s 13 (upd (sA s 13) (Int32.toNatClampNeg a0) (5 : Int32))) ((sA s 14 (Int32.toNatClampNeg a0)) + (4 : Int32)))), .inl a0, .inr (.inr (some 15))]) rfl ?_
  obtain ⟨hc, hw⟩ := hw
  refine X_callv m_En_byteAt (As := [.inl ((sA s 14 (Int32.toNatClampNeg a0)) + (5 : Int32))]) (st := [.inl (((sA s 14 (Int32.toNatClampNeg a0)) + (7 : Int32)) + (f_En_byteAt (pA s 13 (upd (sA s 13) (Int32.toNatClampNeg a0) (5 : Int32))) ((sA s 14 (Int32.toNatClampNeg a0)) + (4 : Int32)))), .inl a0, .inr (.inr (some 15))]) ok_En_byteAt rfl rfl rfl (hp_obj rfl) rfl (Nat.le_of_ble_eq_true rfl) (Nat.le_of_ble_eq_true rfl) (c_En_byteAt (d := d) (pA s 13 (upd (sA s 13) (Int32.toNatClampNeg a0) (5 : Int32))) ((sA s 14 (Int32.toNatClampNeg a0)) + (5 : Int32)) hc) ?_
  rintro _ _ ⟨rfl, rfl⟩
  show X _ _ 27 [some (.inr (.inr (some 12))), some (.inl a0), some (.inl a1), some (.inl a2), some (.inl (sA s 14 (Int32.toNatClampNeg a0)))] [.inl (f_En_byteAt (pA s 13 (upd (sA s 13) (Int32.toNatClampNeg a0) (5 : Int32))) ((sA s 14 (Int32.toNatClampNeg a0)) + (5 : Int32))), .inl (((sA s 14 (Int32.toNatClampNeg a0)) + (7 : Int32)) + (f_En_byteAt (pA s 13 (upd (sA s 13) (Int32.toNatClampNeg a0) (5 : Int32))) ((sA s 14 (Int32.toNatClampNeg a0)) + (4 : Int32)))), .inl a0, .inr (.inr (some 15))] (hp (pA s 13 (upd (sA s 13) (Int32.toNatClampNeg a0) (5 : Int32)))) _
  refine X_run 1 (i1 := 28) (L1 := [some (.inr (.inr (some 12))), some (.inl a0), some (.inl a1), some (.inl a2), some (.inl (sA s 14 (Int32.toNatClampNeg a0)))]) (st1 := [.inl ((((sA s 14 (Int32.toNatClampNeg a0)) + (7 : Int32)) + (f_En_byteAt (pA s 13 (upd (sA s 13) (Int32.toNatClampNeg a0) (5 : Int32))) ((sA s 14 (Int32.toNatClampNeg a0)) + (4 : Int32)))) + (f_En_byteAt (pA s 13 (upd (sA s 13) (Int32.toNatClampNeg a0) (5 : Int32))) ((sA s 14 (Int32.toNatClampNeg a0)) + (5 : Int32)))), .inl a0, .inr (.inr (some 15))]) rfl ?_
  obtain ⟨hin, hw⟩ := hw
  refine X_sI rfl rfl hin ?_
  show X _ _ 29 [some (.inr (.inr (some 12))), some (.inl a0), some (.inl a1), some (.inl a2), some (.inl (sA s 14 (Int32.toNatClampNeg a0)))] [] (hp (pA (pA s 13 (upd (sA s 13) (Int32.toNatClampNeg a0) (5 : Int32))) 15 (upd (sA s 15) (Int32.toNatClampNeg a0) ((((sA s 14 (Int32.toNatClampNeg a0)) + (7 : Int32)) + (f_En_byteAt (pA s 13 (upd (sA s 13) (Int32.toNatClampNeg a0) (5 : Int32))) ((sA s 14 (Int32.toNatClampNeg a0)) + (4 : Int32)))) + (f_En_byteAt (pA s 13 (upd (sA s 13) (Int32.toNatClampNeg a0) (5 : Int32))) ((sA s 14 (Int32.toNatClampNeg a0)) + (5 : Int32))))))) _
  show X _ _ 29 [some (.inr (.inr (some 12))), some (.inl a0), some (.inl a1), some (.inl a2), some (.inl (sA s 14 (Int32.toNatClampNeg a0)))] [] (hp (pA (pA s 13 (upd (sA s 13) (Int32.toNatClampNeg a0) (5 : Int32))) 15 (upd (sA s 15) (Int32.toNatClampNeg a0) ((((sA s 14 (Int32.toNatClampNeg a0)) + (7 : Int32)) + (f_En_byteAt (pA s 13 (upd (sA s 13) (Int32.toNatClampNeg a0) (5 : Int32))) ((sA s 14 (Int32.toNatClampNeg a0)) + (4 : Int32)))) + (f_En_byteAt (pA s 13 (upd (sA s 13) (Int32.toNatClampNeg a0) (5 : Int32))) ((sA s 14 (Int32.toNatClampNeg a0)) + (5 : Int32))))))) _
  exact ct_En_beginAlways_29 (pA (pA s 13 (upd (sA s 13) (Int32.toNatClampNeg a0) (5 : Int32))) 15 (upd (sA s 15) (Int32.toNatClampNeg a0) ((((sA s 14 (Int32.toNatClampNeg a0)) + (7 : Int32)) + (f_En_byteAt (pA s 13 (upd (sA s 13) (Int32.toNatClampNeg a0) (5 : Int32))) ((sA s 14 (Int32.toNatClampNeg a0)) + (4 : Int32)))) + (f_En_byteAt (pA s 13 (upd (sA s 13) (Int32.toNatClampNeg a0) (5 : Int32))) ((sA s 14 (Int32.toNatClampNeg a0)) + (5 : Int32)))))) a0 a1 a2 (sA s 14 (Int32.toNatClampNeg a0)) hw
def t_En_leave_18 (s : St) (v1 : Int32) : St := (cond (cn1 .eq (sA s 17 (Int32.toNatClampNeg v1))) s (f_Le_handOn s (sA s 17 (Int32.toNatClampNeg v1)) (sA s 18 (Int32.toNatClampNeg v1))))
def w_En_leave_18 (s : St) (v1 : Int32) : Prop := (vp_in v1 132 ∧ ((cn1 .eq (sA s 17 (Int32.toNatClampNeg v1))) = true → True) ∧ ((cn1 .eq (sA s 17 (Int32.toNatClampNeg v1))) = false → (vp_in v1 132 ∧ (vp_in v1 132 ∧ (w_Le_handOn s (sA s 17 (Int32.toNatClampNeg v1)) (sA s 18 (Int32.toNatClampNeg v1)) ∧ True)))))
theorem ct_En_leave_18 {d : Nat} (s : St) (v1 : Int32) (hw : w_En_leave_18 s v1) : X m_En_leave (d + 3) 18 [some (.inr (.inr (some 12))), some (.inl v1)] [] (hp s) (qVs (t_En_leave_18 s v1)) := by
  unfold t_En_leave_18
  unfold w_En_leave_18 at hw
  refine X_run 1 (i1 := 19) (L1 := [some (.inr (.inr (some 12))), some (.inl v1)]) (st1 := [.inr (.inr (some 12))]) rfl ?_
  refine X_gF (v := .inr (.inr (some 17))) rfl rfl rfl rfl ?_
  refine X_run 1 (i1 := 21) (L1 := [some (.inr (.inr (some 12))), some (.inl v1)]) (st1 := [.inl v1, .inr (.inr (some 17))]) rfl ?_
  obtain ⟨hin, hw⟩ := hw
  refine X_aI rfl rfl hin ?_
  show X _ _ 22 [some (.inr (.inr (some 12))), some (.inl v1)] [.inl (sA s 17 (Int32.toNatClampNeg v1))] (hp s) _
  refine X_run 1 (i1 := cond (cn1 .eq (sA s 17 (Int32.toNatClampNeg v1))) 38 23) (L1 := [some (.inr (.inr (some 12))), some (.inl v1)]) (st1 := []) rfl ?_
  refine X_brq (fun hb => ?_) (fun hb => ?_)
  · skip
    exact X_ret rfl rfl qVs_i
  · have hw := hw.2 hb
    refine X_run 1 (i1 := 24) (L1 := [some (.inr (.inr (some 12))), some (.inl v1)]) (st1 := [.inr (.inr (some 12))]) rfl ?_
    refine X_gF (v := .inr (.inr (some 1))) rfl rfl rfl rfl ?_
    refine X_run 1 (i1 := 26) (L1 := [some (.inr (.inr (some 12))), some (.inl v1)]) (st1 := [.inr (.inr (some 12)), .inr (.inr (some 1))]) rfl ?_
    refine X_gF (v := .inr (.inr (some 17))) rfl rfl rfl rfl ?_
    refine X_run 1 (i1 := 28) (L1 := [some (.inr (.inr (some 12))), some (.inl v1)]) (st1 := [.inl v1, .inr (.inr (some 17)), .inr (.inr (some 1))]) rfl ?_
    obtain ⟨hin, hw⟩ := hw
    refine X_aI rfl rfl hin ?_
    show X _ _ 29 [some (.inr (.inr (some 12))), some (.inl v1)] [.inl (sA s 17 (Int32.toNatClampNeg v1)), .inr (.inr (some 1))] (hp s) _
    refine X_run 1 (i1 := 30) (L1 := [some (.inr (.inr (some 12))), some (.inl v1)]) (st1 := [.inr (.inr (some 12)), .inl (sA s 17 (Int32.toNatClampNeg v1)), .inr (.inr (some 1))]) rfl ?_
    refine X_gF (v := .inr (.inr (some 18))) rfl rfl rfl rfl ?_
    refine X_run 1 (i1 := 32) (L1 := [some (.inr (.inr (some 12))), some (.inl v1)]) (st1 := [.inl v1, .inr (.inr (some 18)), .inl (sA s 17 (Int32.toNatClampNeg v1)), .inr (.inr (some 1))]) rfl ?_
    obtain ⟨hin, hw⟩ := hw
    refine X_aI rfl rfl hin ?_
    show X _ _ 33 [some (.inr (.inr (some 12))), some (.inl v1)] [.inl (sA s 18 (Int32.toNatClampNeg v1)), .inl (sA s 17 (Int32.toNatClampNeg v1)), .inr (.inr (some 1))] (hp s) _
    obtain ⟨hc, hw⟩ := hw
    refine X_callv m_Le_handOn (As := [.inl (sA s 17 (Int32.toNatClampNeg v1)), .inl (sA s 18 (Int32.toNatClampNeg v1))]) (st := []) ok_Le_handOn rfl rfl rfl (hp_obj rfl) rfl (Nat.le_of_ble_eq_true rfl) (Nat.le_of_ble_eq_true rfl) (c_Le_handOn (d := d + 2) s (sA s 17 (Int32.toNatClampNeg v1)) (sA s 18 (Int32.toNatClampNeg v1)) hc) ?_
    rintro _ _ ⟨rfl, rfl⟩
    show X _ _ 34 [some (.inr (.inr (some 12))), some (.inl v1)] [] (hp (f_Le_handOn s (sA s 17 (Int32.toNatClampNeg v1)) (sA s 18 (Int32.toNatClampNeg v1)))) _
    refine X_run 1 (i1 := 38) (L1 := [some (.inr (.inr (some 12))), some (.inl v1)]) (st1 := []) rfl ?_
    exact X_ret rfl rfl qVs_i
def f_En_leave (s : St) (a0 : Int32) : St := (if (sA s 13 (Int32.toNatClampNeg a0)) = (2 : Int32) then (f_En_beginFurtherRound s a0) else (if (sA s 13 (Int32.toNatClampNeg a0)) = (3 : Int32) then (f_En_beginAlways s a0 (0 : Int32) (0 : Int32)) else (if (sA s 13 (Int32.toNatClampNeg a0)) = (4 : Int32) then (f_En_beginAlways s a0 (0 : Int32) (0 : Int32)) else (if (sA s 13 (Int32.toNatClampNeg a0)) = (5 : Int32) then (t_En_leave_18 (f_En_pop s a0) a0) else (f_En_pop s a0)))))
def w_En_leave (s : St) (a0 : Int32) : Prop := (vp_in a0 132 ∧ (((sA s 13 (Int32.toNatClampNeg a0)) = (2 : Int32) → (w_En_beginFurtherRound s a0 ∧ True)) ∧ (¬ (sA s 13 (Int32.toNatClampNeg a0)) = (2 : Int32) → (((sA s 13 (Int32.toNatClampNeg a0)) = (3 : Int32) → (w_En_beginAlways s a0 (0 : Int32) (0 : Int32) ∧ True)) ∧ (¬ (sA s 13 (Int32.toNatClampNeg a0)) = (3 : Int32) → (((sA s 13 (Int32.toNatClampNeg a0)) = (4 : Int32) → (w_En_beginAlways s a0 (0 : Int32) (0 : Int32) ∧ True)) ∧ (¬ (sA s 13 (Int32.toNatClampNeg a0)) = (4 : Int32) → (((sA s 13 (Int32.toNatClampNeg a0)) = (5 : Int32) → (w_En_pop s a0 ∧ (w_En_leave_18 (f_En_pop s a0) a0))) ∧ (¬ (sA s 13 (Int32.toNatClampNeg a0)) = (5 : Int32) → (w_En_pop s a0 ∧ True))))))))))
theorem c_En_leave {d : Nat} (s : St) (a0 : Int32) (hw : w_En_leave s a0) : X m_En_leave (d + 3) 0 (entL 2 [.inr (.inr (some 12)), .inl a0]) [] (hp s) (qVs (f_En_leave s a0)) := by
  unfold f_En_leave
  unfold w_En_leave at hw
  refine X_run 1 (i1 := 1) (L1 := [some (.inr (.inr (some 12))), some (.inl a0)]) (st1 := [.inr (.inr (some 12))]) rfl ?_
  refine X_gF (v := .inr (.inr (some 13))) rfl rfl rfl rfl ?_
  refine X_run 1 (i1 := 3) (L1 := [some (.inr (.inr (some 12))), some (.inl a0)]) (st1 := [.inl a0, .inr (.inr (some 13))]) rfl ?_
  obtain ⟨hin, hw⟩ := hw
  refine X_aI rfl rfl hin ?_
  show X _ _ 4 [some (.inr (.inr (some 12))), some (.inl a0)] [.inl (sA s 13 (Int32.toNatClampNeg a0))] (hp s) _
  refine X_itq (fun h => ?_) (fun h4_0 => ?_)
  · refine X_tsk rfl h rfl ?_
    have hw := hw.1 h
    refine X_run 2 (i1 := 7) (L1 := [some (.inr (.inr (some 12))), some (.inl a0)]) (st1 := [.inl a0, .inr (.inr (some 12))]) rfl ?_
    obtain ⟨hc, hw⟩ := hw
    refine X_callv m_En_beginFurtherRound (As := [.inl a0]) (st := []) ok_En_beginFurtherRound rfl rfl rfl (hp_obj rfl) rfl (Nat.le_of_ble_eq_true rfl) (Nat.le_of_ble_eq_true rfl) (c_En_beginFurtherRound (d := d) s a0 hc) ?_
    rintro _ _ ⟨rfl, rfl⟩
    show X _ _ 8 [some (.inr (.inr (some 12))), some (.inl a0)] [] (hp (f_En_beginFurtherRound s a0)) _
    refine X_run 1 (i1 := 38) (L1 := [some (.inr (.inr (some 12))), some (.inl a0)]) (st1 := []) rfl ?_
    exact X_ret rfl rfl qVs_i
  have hw := hw.2 h4_0
  refine X_itq (fun h => ?_) (fun h4_1 => ?_)
  · refine X_tsk rfl h rfl ?_
    have hw := hw.1 h
    refine X_run 4 (i1 := 13) (L1 := [some (.inr (.inr (some 12))), some (.inl a0)]) (st1 := [.inl (0 : Int32), .inl (0 : Int32), .inl a0, .inr (.inr (some 12))]) rfl ?_
    obtain ⟨hc, hw⟩ := hw
    refine X_callv m_En_beginAlways (As := [.inl a0, .inl (0 : Int32), .inl (0 : Int32)]) (st := []) ok_En_beginAlways rfl rfl rfl (hp_obj rfl) rfl (Nat.le_of_ble_eq_true rfl) (Nat.le_of_ble_eq_true rfl) (c_En_beginAlways (d := d + 1) s a0 (0 : Int32) (0 : Int32) hc) ?_
    rintro _ _ ⟨rfl, rfl⟩
    show X _ _ 14 [some (.inr (.inr (some 12))), some (.inl a0)] [] (hp (f_En_beginAlways s a0 (0 : Int32) (0 : Int32))) _
    refine X_run 1 (i1 := 38) (L1 := [some (.inr (.inr (some 12))), some (.inl a0)]) (st1 := []) rfl ?_
    exact X_ret rfl rfl qVs_i
  have hw := hw.2 h4_1
  refine X_itq (fun h => ?_) (fun h4_2 => ?_)
  · refine X_tsk rfl h rfl ?_
    have hw := hw.1 h
    refine X_run 4 (i1 := 13) (L1 := [some (.inr (.inr (some 12))), some (.inl a0)]) (st1 := [.inl (0 : Int32), .inl (0 : Int32), .inl a0, .inr (.inr (some 12))]) rfl ?_
    obtain ⟨hc, hw⟩ := hw
    refine X_callv m_En_beginAlways (As := [.inl a0, .inl (0 : Int32), .inl (0 : Int32)]) (st := []) ok_En_beginAlways rfl rfl rfl (hp_obj rfl) rfl (Nat.le_of_ble_eq_true rfl) (Nat.le_of_ble_eq_true rfl) (c_En_beginAlways (d := d + 1) s a0 (0 : Int32) (0 : Int32) hc) ?_
    rintro _ _ ⟨rfl, rfl⟩
    show X _ _ 14 [some (.inr (.inr (some 12))), some (.inl a0)] [] (hp (f_En_beginAlways s a0 (0 : Int32) (0 : Int32))) _
    refine X_run 1 (i1 := 38) (L1 := [some (.inr (.inr (some 12))), some (.inl a0)]) (st1 := []) rfl ?_
    exact X_ret rfl rfl qVs_i
  have hw := hw.2 h4_2
  refine X_itq (fun h => ?_) (fun h4_3 => ?_)
  · refine X_tsk rfl h rfl ?_
    have hw := hw.1 h
    refine X_run 2 (i1 := 17) (L1 := [some (.inr (.inr (some 12))), some (.inl a0)]) (st1 := [.inl a0, .inr (.inr (some 12))]) rfl ?_
    obtain ⟨hc, hw⟩ := hw
    refine X_callv m_En_pop (As := [.inl a0]) (st := []) ok_En_pop rfl rfl rfl (hp_obj rfl) rfl (Nat.le_of_ble_eq_true rfl) (Nat.le_of_ble_eq_true rfl) (c_En_pop (d := d + 2) s a0 hc) ?_
    rintro _ _ ⟨rfl, rfl⟩
    show X _ _ 18 [some (.inr (.inr (some 12))), some (.inl a0)] [] (hp (f_En_pop s a0)) _
    show X _ _ 18 [some (.inr (.inr (some 12))), some (.inl a0)] [] (hp (f_En_pop s a0)) _
    exact ct_En_leave_18 (f_En_pop s a0) a0 hw
  have hw := hw.2 h4_3
  refine X_tsd rfl ((sw_out (2) 4 (by decide) (by decide) (fun j hj => by
    match j, hj with
    | 0, _ => exact h4_0
    | 1, _ => exact h4_1
    | 2, _ => exact h4_2
    | 3, _ => exact h4_3
    | j + 4, hj => exact absurd hj (by omega))).imp id (fun h => by omega)) ?_
  refine X_run 2 (i1 := 37) (L1 := [some (.inr (.inr (some 12))), some (.inl a0)]) (st1 := [.inl a0, .inr (.inr (some 12))]) rfl ?_
  obtain ⟨hc, hw⟩ := hw
  refine X_callv m_En_pop (As := [.inl a0]) (st := []) ok_En_pop rfl rfl rfl (hp_obj rfl) rfl (Nat.le_of_ble_eq_true rfl) (Nat.le_of_ble_eq_true rfl) (c_En_pop (d := d + 2) s a0 hc) ?_
  rintro _ _ ⟨rfl, rfl⟩
  show X _ _ 38 [some (.inr (.inr (some 12))), some (.inl a0)] [] (hp (f_En_pop s a0)) _
  exact X_ret rfl rfl qVs_i
def t_En_beginHandler_38 (fu : Nat) (s : St) (v1 : Int32) (v4 : Int32) : St := (pA s 16 (upd (sA s 16) (Int32.toNatClampNeg v1) ((sA s 15 (Int32.toNatClampNeg v1)) + (f_En_byteAt s (v4 + (5 : Int32))))))
def w_En_beginHandler_38 (fu : Nat) (s : St) (v1 : Int32) (v4 : Int32) : Prop := (vp_in v1 132 ∧ (w_En_byteAt s (v4 + (5 : Int32)) ∧ (vp_in v1 132 ∧ True)))
theorem ct_En_beginHandler_38 {d : Nat} (fu : Nat) (s : St) (v1 : Int32) (v4 : Int32) (hw : w_En_beginHandler_38 fu s v1 v4) : X m_En_beginHandler (d + 3) 38 [some (.inr (.inr (some 12))), some (.inl v1), none, none, some (.inl v4)] [] (hp s) (qVs (t_En_beginHandler_38 fu s v1 v4)) := by
  unfold t_En_beginHandler_38
  unfold w_En_beginHandler_38 at hw
  refine X_run 1 (i1 := 39) (L1 := [some (.inr (.inr (some 12))), some (.inl v1), none, none, some (.inl v4)]) (st1 := [.inr (.inr (some 12))]) rfl ?_
  refine X_gF (v := .inr (.inr (some 16))) rfl rfl rfl rfl ?_
  refine X_run 2 (i1 := 42) (L1 := [some (.inr (.inr (some 12))), some (.inl v1), none, none, some (.inl v4)]) (st1 := [.inr (.inr (some 12)), .inl v1, .inr (.inr (some 16))]) rfl ?_
  refine X_gF (v := .inr (.inr (some 15))) rfl rfl rfl rfl ?_
  refine X_run 1 (i1 := 44) (L1 := [some (.inr (.inr (some 12))), some (.inl v1), none, none, some (.inl v4)]) (st1 := [.inl v1, .inr (.inr (some 15)), .inl v1, .inr (.inr (some 16))]) rfl ?_
  obtain ⟨hin, hw⟩ := hw
  refine X_aI rfl rfl hin ?_
  show X _ _ 45 [some (.inr (.inr (some 12))), some (.inl v1), none, none, some (.inl v4)] [.inl (sA s 15 (Int32.toNatClampNeg v1)), .inl v1, .inr (.inr (some 16))] (hp s) _
  refine X_run 4 (i1 := 49) (L1 := [some (.inr (.inr (some 12))), some (.inl v1), none, none, some (.inl v4)]) (st1 := [.inl (v4 + (5 : Int32)), .inr (.inr (some 12)), .inl (sA s 15 (Int32.toNatClampNeg v1)), .inl v1, .inr (.inr (some 16))]) rfl ?_
  obtain ⟨hc, hw⟩ := hw
  refine X_callv m_En_byteAt (As := [.inl (v4 + (5 : Int32))]) (st := [.inl (sA s 15 (Int32.toNatClampNeg v1)), .inl v1, .inr (.inr (some 16))]) ok_En_byteAt rfl rfl rfl (hp_obj rfl) rfl (Nat.le_of_ble_eq_true rfl) (Nat.le_of_ble_eq_true rfl) (c_En_byteAt (d := d + 2) s (v4 + (5 : Int32)) hc) ?_
  rintro _ _ ⟨rfl, rfl⟩
  show X _ _ 50 [some (.inr (.inr (some 12))), some (.inl v1), none, none, some (.inl v4)] [.inl (f_En_byteAt s (v4 + (5 : Int32))), .inl (sA s 15 (Int32.toNatClampNeg v1)), .inl v1, .inr (.inr (some 16))] (hp s) _
  refine X_run 1 (i1 := 51) (L1 := [some (.inr (.inr (some 12))), some (.inl v1), none, none, some (.inl v4)]) (st1 := [.inl ((sA s 15 (Int32.toNatClampNeg v1)) + (f_En_byteAt s (v4 + (5 : Int32)))), .inl v1, .inr (.inr (some 16))]) rfl ?_
  obtain ⟨hin, hw⟩ := hw
  refine X_sI rfl rfl hin ?_
  show X _ _ 52 [some (.inr (.inr (some 12))), some (.inl v1), none, none, some (.inl v4)] [] (hp (pA s 16 (upd (sA s 16) (Int32.toNatClampNeg v1) ((sA s 15 (Int32.toNatClampNeg v1)) + (f_En_byteAt s (v4 + (5 : Int32))))))) _
  exact X_ret rfl rfl qVs_i
def t_En_beginHandler_20 (fu : Nat) (s : St) (v1 : Int32) (v4 : Int32) : St := (t_En_beginHandler_38 fu (pA (pA s 13 (upd (sA s 13) (Int32.toNatClampNeg v1) (4 : Int32))) 15 (upd (sA s 15) (Int32.toNatClampNeg v1) ((v4 + (7 : Int32)) + (f_En_byteAt (pA s 13 (upd (sA s 13) (Int32.toNatClampNeg v1) (4 : Int32))) (v4 + (4 : Int32)))))) v1 v4)
def w_En_beginHandler_20 (fu : Nat) (s : St) (v1 : Int32) (v4 : Int32) : Prop := (vp_in v1 132 ∧ (w_En_byteAt (pA s 13 (upd (sA s 13) (Int32.toNatClampNeg v1) (4 : Int32))) (v4 + (4 : Int32)) ∧ (vp_in v1 132 ∧ (w_En_beginHandler_38 fu (pA (pA s 13 (upd (sA s 13) (Int32.toNatClampNeg v1) (4 : Int32))) 15 (upd (sA s 15) (Int32.toNatClampNeg v1) ((v4 + (7 : Int32)) + (f_En_byteAt (pA s 13 (upd (sA s 13) (Int32.toNatClampNeg v1) (4 : Int32))) (v4 + (4 : Int32)))))) v1 v4))))
theorem ct_En_beginHandler_20 {d : Nat} (fu : Nat) (s : St) (v1 : Int32) (v4 : Int32) (hw : w_En_beginHandler_20 fu s v1 v4) : X m_En_beginHandler (d + 3) 20 [some (.inr (.inr (some 12))), some (.inl v1), none, none, some (.inl v4)] [] (hp s) (qVs (t_En_beginHandler_20 fu s v1 v4)) := by
  unfold t_En_beginHandler_20
  unfold w_En_beginHandler_20 at hw
  refine X_run 1 (i1 := 21) (L1 := [some (.inr (.inr (some 12))), some (.inl v1), none, none, some (.inl v4)]) (st1 := [.inr (.inr (some 12))]) rfl ?_
  refine X_gF (v := .inr (.inr (some 13))) rfl rfl rfl rfl ?_
  refine X_run 2 (i1 := 24) (L1 := [some (.inr (.inr (some 12))), some (.inl v1), none, none, some (.inl v4)]) (st1 := [.inl (4 : Int32), .inl v1, .inr (.inr (some 13))]) rfl ?_
  obtain ⟨hin, hw⟩ := hw
  refine X_sI rfl rfl hin ?_
  show X _ _ 25 [some (.inr (.inr (some 12))), some (.inl v1), none, none, some (.inl v4)] [] (hp (pA s 13 (upd (sA s 13) (Int32.toNatClampNeg v1) (4 : Int32)))) _
  refine X_run 1 (i1 := 26) (L1 := [some (.inr (.inr (some 12))), some (.inl v1), none, none, some (.inl v4)]) (st1 := [.inr (.inr (some 12))]) rfl ?_
  refine X_gF (v := .inr (.inr (some 15))) rfl rfl rfl rfl ?_
  refine X_run 8 (i1 := 35) (L1 := [some (.inr (.inr (some 12))), some (.inl v1), none, none, some (.inl v4)]) (st1 := [.inl (v4 + (4 : Int32)), .inr (.inr (some 12)), .inl (v4 + (7 : Int32)), .inl v1, .inr (.inr (some 15))]) rfl ?_
  obtain ⟨hc, hw⟩ := hw
  refine X_callv m_En_byteAt (As := [.inl (v4 + (4 : Int32))]) (st := [.inl (v4 + (7 : Int32)), .inl v1, .inr (.inr (some 15))]) ok_En_byteAt rfl rfl rfl (hp_obj rfl) rfl (Nat.le_of_ble_eq_true rfl) (Nat.le_of_ble_eq_true rfl) (c_En_byteAt (d := d + 2) (pA s 13 (upd (sA s 13) (Int32.toNatClampNeg v1) (4 : Int32))) (v4 + (4 : Int32)) hc) ?_
  rintro _ _ ⟨rfl, rfl⟩
  show X _ _ 36 [some (.inr (.inr (some 12))), some (.inl v1), none, none, some (.inl v4)] [.inl (f_En_byteAt (pA s 13 (upd (sA s 13) (Int32.toNatClampNeg v1) (4 : Int32))) (v4 + (4 : Int32))), .inl (v4 + (7 : Int32)), .inl v1, .inr (.inr (some 15))] (hp (pA s 13 (upd (sA s 13) (Int32.toNatClampNeg v1) (4 : Int32)))) _
  refine X_run 1 (i1 := 37) (L1 := [some (.inr (.inr (some 12))), some (.inl v1), none, none, some (.inl v4)]) (st1 := [.inl ((v4 + (7 : Int32)) + (f_En_byteAt (pA s 13 (upd (sA s 13) (Int32.toNatClampNeg v1) (4 : Int32))) (v4 + (4 : Int32)))), .inl v1, .inr (.inr (some 15))]) rfl ?_
  obtain ⟨hin, hw⟩ := hw
  refine X_sI rfl rfl hin ?_
  show X _ _ 38 [some (.inr (.inr (some 12))), some (.inl v1), none, none, some (.inl v4)] [] (hp (pA (pA s 13 (upd (sA s 13) (Int32.toNatClampNeg v1) (4 : Int32))) 15 (upd (sA s 15) (Int32.toNatClampNeg v1) ((v4 + (7 : Int32)) + (f_En_byteAt (pA s 13 (upd (sA s 13) (Int32.toNatClampNeg v1) (4 : Int32))) (v4 + (4 : Int32))))))) _
  show X _ _ 38 [some (.inr (.inr (some 12))), some (.inl v1), none, none, some (.inl v4)] [] (hp (pA (pA s 13 (upd (sA s 13) (Int32.toNatClampNeg v1) (4 : Int32))) 15 (upd (sA s 15) (Int32.toNatClampNeg v1) ((v4 + (7 : Int32)) + (f_En_byteAt (pA s 13 (upd (sA s 13) (Int32.toNatClampNeg v1) (4 : Int32))) (v4 + (4 : Int32))))))) _
  exact ct_En_beginHandler_38 fu (pA (pA s 13 (upd (sA s 13) (Int32.toNatClampNeg v1) (4 : Int32))) 15 (upd (sA s 15) (Int32.toNatClampNeg v1) ((v4 + (7 : Int32)) + (f_En_byteAt (pA s 13 (upd (sA s 13) (Int32.toNatClampNeg v1) (4 : Int32))) (v4 + (4 : Int32)))))) v1 v4 hw
def t_En_beginHandler_8 (fu : Nat) (s : St) (v1 : Int32) (v2 : Int32) (v3 : Int32) (v4 : Int32) : St := (t_En_beginHandler_20 fu (pA (pA s 9 (upd (sA s 9) (Int32.toNatClampNeg (7 : Int32)) v2)) 9 (upd ((upd (sA s 9) (Int32.toNatClampNeg (7 : Int32)) v2)) (Int32.toNatClampNeg (6 : Int32)) v3)) v1 v4)
def w_En_beginHandler_8 (fu : Nat) (s : St) (v1 : Int32) (v2 : Int32) (v3 : Int32) (v4 : Int32) : Prop := (vp_in (7 : Int32) 8 ∧ (vp_in (6 : Int32) 8 ∧ (w_En_beginHandler_20 fu (pA (pA s 9 (upd (sA s 9) (Int32.toNatClampNeg (7 : Int32)) v2)) 9 (upd ((upd (sA s 9) (Int32.toNatClampNeg (7 : Int32)) v2)) (Int32.toNatClampNeg (6 : Int32)) v3)) v1 v4)))
theorem ct_En_beginHandler_8 {d : Nat} (fu : Nat) (s : St) (v1 : Int32) (v2 : Int32) (v3 : Int32) (v4 : Int32) (hw : w_En_beginHandler_8 fu s v1 v2 v3 v4) : X m_En_beginHandler (d + 3) 8 [some (.inr (.inr (some 12))), some (.inl v1), some (.inl v2), some (.inl v3), some (.inl v4)] [] (hp s) (qVs (t_En_beginHandler_8 fu s v1 v2 v3 v4)) := by
  unfold t_En_beginHandler_8
  unfold w_En_beginHandler_8 at hw
  refine X_run 1 (i1 := 9) (L1 := [some (.inr (.inr (some 12))), some (.inl v1), some (.inl v2), some (.inl v3), some (.inl v4)]) (st1 := [.inr (.inr (some 12))]) rfl ?_
  refine X_gF (v := .inr (.inr (some 8))) rfl rfl rfl rfl ?_
  refine X_gF (v := .inr (.inr (some 9))) rfl rfl rfl rfl ?_
  refine X_run 2 (i1 := 13) (L1 := [some (.inr (.inr (some 12))), some (.inl v1), some (.inl v2), some (.inl v3), some (.inl v4)]) (st1 := [.inl v2, .inl (7 : Int32), .inr (.inr (some 9))]) rfl ?_
  obtain ⟨hin, hw⟩ := hw
  refine X_sI rfl rfl hin ?_
  show X _ _ 14 [some (.inr (.inr (some 12))), some (.inl v1), some (.inl v2), some (.inl v3), some (.inl v4)] [] (hp (pA s 9 (upd (sA s 9) (Int32.toNatClampNeg (7 : Int32)) v2))) _
  refine X_run 1 (i1 := 15) (L1 := [some (.inr (.inr (some 12))), some (.inl v1), some (.inl v2), some (.inl v3), some (.inl v4)]) (st1 := [.inr (.inr (some 12))]) rfl ?_
  refine X_gF (v := .inr (.inr (some 8))) rfl rfl rfl rfl ?_
  refine X_gF (v := .inr (.inr (some 9))) rfl rfl rfl rfl ?_
  refine X_run 2 (i1 := 19) (L1 := [some (.inr (.inr (some 12))), some (.inl v1), some (.inl v2), some (.inl v3), some (.inl v4)]) (st1 := [.inl v3, .inl (6 : Int32), .inr (.inr (some 9))]) rfl ?_
  obtain ⟨hin, hw⟩ := hw
  refine X_sI rfl rfl hin ?_
  show X _ _ 20 [some (.inr (.inr (some 12))), some (.inl v1), some (.inl v2), some (.inl v3), some (.inl v4)] [] (hp (pA (pA s 9 (upd (sA s 9) (Int32.toNatClampNeg (7 : Int32)) v2)) 9 (upd ((upd (sA s 9) (Int32.toNatClampNeg (7 : Int32)) v2)) (Int32.toNatClampNeg (6 : Int32)) v3))) _
  show X _ _ 20 [some (.inr (.inr (some 12))), some (.inl v1), some (.inl v2), some (.inl v3), some (.inl v4)] [] (hp (pA (pA s 9 (upd (sA s 9) (Int32.toNatClampNeg (7 : Int32)) v2)) 9 (upd ((upd (sA s 9) (Int32.toNatClampNeg (7 : Int32)) v2)) (Int32.toNatClampNeg (6 : Int32)) v3))) _
  refine X_mask [true, true, false, false, true] ?_
  exact ct_En_beginHandler_20 fu (pA (pA s 9 (upd (sA s 9) (Int32.toNatClampNeg (7 : Int32)) v2)) 9 (upd ((upd (sA s 9) (Int32.toNatClampNeg (7 : Int32)) v2)) (Int32.toNatClampNeg (6 : Int32)) v3)) v1 v4 hw
def f_En_beginHandler (fu : Nat) (s : St) (a0 : Int32) (a1 : Int32) (a2 : Int32) : St := (t_En_beginHandler_8 fu (f_En_putSlotsBack fu s a0) a0 a1 a2 (sA s 14 (Int32.toNatClampNeg a0)))
def w_En_beginHandler (fu : Nat) (s : St) (a0 : Int32) (a1 : Int32) (a2 : Int32) : Prop := (vp_in a0 132 ∧ (w_En_putSlotsBack fu s a0 ∧ (w_En_beginHandler_8 fu (f_En_putSlotsBack fu s a0) a0 a1 a2 (sA s 14 (Int32.toNatClampNeg a0)))))
theorem c_En_beginHandler {d : Nat} (fu : Nat) (s : St) (a0 : Int32) (a1 : Int32) (a2 : Int32) (hw : w_En_beginHandler fu s a0 a1 a2) : X m_En_beginHandler (d + 3) 0 (entL 5 [.inr (.inr (some 12)), .inl a0, .inl a1, .inl a2]) [] (hp s) (qVs (f_En_beginHandler fu s a0 a1 a2)) := by
  unfold f_En_beginHandler
  unfold w_En_beginHandler at hw
  refine X_run 1 (i1 := 1) (L1 := [some (.inr (.inr (some 12))), some (.inl a0), some (.inl a1), some (.inl a2), none]) (st1 := [.inr (.inr (some 12))]) rfl ?_
  refine X_gF (v := .inr (.inr (some 14))) rfl rfl rfl rfl ?_
  refine X_run 1 (i1 := 3) (L1 := [some (.inr (.inr (some 12))), some (.inl a0), some (.inl a1), some (.inl a2), none]) (st1 := [.inl a0, .inr (.inr (some 14))]) rfl ?_
  obtain ⟨hin, hw⟩ := hw
  refine X_aI rfl rfl hin ?_
  show X _ _ 4 [some (.inr (.inr (some 12))), some (.inl a0), some (.inl a1), some (.inl a2), none] [.inl (sA s 14 (Int32.toNatClampNeg a0))] (hp s) _
  refine X_run 3 (i1 := 7) (L1 := [some (.inr (.inr (some 12))), some (.inl a0), some (.inl a1), some (.inl a2), some (.inl (sA s 14 (Int32.toNatClampNeg a0)))]) (st1 := [.inl a0, .inr (.inr (some 12))]) rfl ?_
  obtain ⟨hc, hw⟩ := hw
  refine X_callv m_En_putSlotsBack (As := [.inl a0]) (st := []) ok_En_putSlotsBack rfl rfl rfl (hp_obj rfl) rfl (Nat.le_of_ble_eq_true rfl) (Nat.le_of_ble_eq_true rfl) (c_En_putSlotsBack (d := d) fu s a0 hc) ?_
  rintro _ _ ⟨rfl, rfl⟩
  show X _ _ 8 [some (.inr (.inr (some 12))), some (.inl a0), some (.inl a1), some (.inl a2), some (.inl (sA s 14 (Int32.toNatClampNeg a0)))] [] (hp (f_En_putSlotsBack fu s a0)) _
  show X _ _ 8 [some (.inr (.inr (some 12))), some (.inl a0), some (.inl a1), some (.inl a2), some (.inl (sA s 14 (Int32.toNatClampNeg a0)))] [] (hp (f_En_putSlotsBack fu s a0)) _
  exact ct_En_beginHandler_8 fu (f_En_putSlotsBack fu s a0) a0 a1 a2 (sA s 14 (Int32.toNatClampNeg a0)) hw
def t_En_leaveByFault_55 (fu : Nat) (s : St) (v1 : Int32) (v2 : Int32) (v3 : Int32) : St := (f_En_beginAlways s v1 v2 v3)
def w_En_leaveByFault_55 (fu : Nat) (s : St) (v1 : Int32) (v2 : Int32) (v3 : Int32) : Prop := (w_En_beginAlways s v1 v2 v3 ∧ True)
theorem ct_En_leaveByFault_55 {d : Nat} (fu : Nat) (s : St) (v1 : Int32) (v2 : Int32) (v3 : Int32) (hw : w_En_leaveByFault_55 fu s v1 v2 v3) : X m_En_leaveByFault (d + 4) 55 [some (.inr (.inr (some 12))), some (.inl v1), some (.inl v2), some (.inl v3)] [] (hp s) (qVs (t_En_leaveByFault_55 fu s v1 v2 v3)) := by
  unfold t_En_leaveByFault_55
  unfold w_En_leaveByFault_55 at hw
  refine X_run 4 (i1 := 59) (L1 := [some (.inr (.inr (some 12))), some (.inl v1), some (.inl v2), some (.inl v3)]) (st1 := [.inl v3, .inl v2, .inl v1, .inr (.inr (some 12))]) rfl ?_
  obtain ⟨hc, hw⟩ := hw
  refine X_callv m_En_beginAlways (As := [.inl v1, .inl v2, .inl v3]) (st := []) ok_En_beginAlways rfl rfl rfl (hp_obj rfl) rfl (Nat.le_of_ble_eq_true rfl) (Nat.le_of_ble_eq_true rfl) (c_En_beginAlways (d := d + 2) s v1 v2 v3 hc) ?_
  rintro _ _ ⟨rfl, rfl⟩
  show X _ _ 60 [some (.inr (.inr (some 12))), some (.inl v1), some (.inl v2), some (.inl v3)] [] (hp (f_En_beginAlways s v1 v2 v3)) _
  exact X_ret rfl rfl qVs_i
def t_En_leaveByFault_27 (fu : Nat) (s : St) (v1 : Int32) (v2 : Int32) (v3 : Int32) : St := (cond (cn2 .ne (sA s 13 (Int32.toNatClampNeg v1)) (3 : Int32)) (t_En_leaveByFault_55 fu s v1 v2 v3) (cond (cn2 .ne (((f_En_byteAt s ((sA s 14 (Int32.toNatClampNeg v1)) + (1 : Int32))) >>> ((v2 - (1 : Int32)) &&& 31)) &&& (1 : Int32)) (1 : Int32)) (t_En_leaveByFault_55 fu s v1 v2 v3) (f_En_beginHandler fu s v1 v2 v3)))
def w_En_leaveByFault_27 (fu : Nat) (s : St) (v1 : Int32) (v2 : Int32) (v3 : Int32) : Prop := (vp_in v1 132 ∧ ((cn2 .ne (sA s 13 (Int32.toNatClampNeg v1)) (3 : Int32)) = true → (w_En_leaveByFault_55 fu s v1 v2 v3)) ∧ ((cn2 .ne (sA s 13 (Int32.toNatClampNeg v1)) (3 : Int32)) = false → (vp_in v1 132 ∧ (w_En_byteAt s ((sA s 14 (Int32.toNatClampNeg v1)) + (1 : Int32)) ∧ ((cn2 .ne (((f_En_byteAt s ((sA s 14 (Int32.toNatClampNeg v1)) + (1 : Int32))) >>> ((v2 - (1 : Int32)) &&& 31)) &&& (1 : Int32)) (1 : Int32)) = true → (w_En_leaveByFault_55 fu s v1 v2 v3)) ∧ ((cn2 .ne (((f_En_byteAt s ((sA s 14 (Int32.toNatClampNeg v1)) + (1 : Int32))) >>> ((v2 - (1 : Int32)) &&& 31)) &&& (1 : Int32)) (1 : Int32)) = false → (w_En_beginHandler fu s v1 v2 v3 ∧ True))))))
theorem ct_En_leaveByFault_27 {d : Nat} (fu : Nat) (s : St) (v1 : Int32) (v2 : Int32) (v3 : Int32) (hw : w_En_leaveByFault_27 fu s v1 v2 v3) : X m_En_leaveByFault (d + 4) 27 [some (.inr (.inr (some 12))), some (.inl v1), some (.inl v2), some (.inl v3)] [] (hp s) (qVs (t_En_leaveByFault_27 fu s v1 v2 v3)) := by
  unfold t_En_leaveByFault_27
  unfold w_En_leaveByFault_27 at hw
  refine X_run 1 (i1 := 28) (L1 := [some (.inr (.inr (some 12))), some (.inl v1), some (.inl v2), some (.inl v3)]) (st1 := [.inr (.inr (some 12))]) rfl ?_
  refine X_gF (v := .inr (.inr (some 13))) rfl rfl rfl rfl ?_
  refine X_run 1 (i1 := 30) (L1 := [some (.inr (.inr (some 12))), some (.inl v1), some (.inl v2), some (.inl v3)]) (st1 := [.inl v1, .inr (.inr (some 13))]) rfl ?_
  obtain ⟨hin, hw⟩ := hw
  refine X_aI rfl rfl hin ?_
  show X _ _ 31 [some (.inr (.inr (some 12))), some (.inl v1), some (.inl v2), some (.inl v3)] [.inl (sA s 13 (Int32.toNatClampNeg v1))] (hp s) _
  refine X_run 2 (i1 := cond (cn2 .ne (sA s 13 (Int32.toNatClampNeg v1)) (3 : Int32)) 55 33) (L1 := [some (.inr (.inr (some 12))), some (.inl v1), some (.inl v2), some (.inl v3)]) (st1 := []) rfl ?_
  refine X_brq (fun hb => ?_) (fun hb => ?_)
  · have hw := hw.1 hb
    exact ct_En_leaveByFault_55 fu s v1 v2 v3 hw
  · have hw := hw.2 hb
    refine X_run 2 (i1 := 35) (L1 := [some (.inr (.inr (some 12))), some (.inl v1), some (.inl v2), some (.inl v3)]) (st1 := [.inr (.inr (some 12)), .inr (.inr (some 12))]) rfl ?_
    refine X_gF (v := .inr (.inr (some 14))) rfl rfl rfl rfl ?_
    refine X_run 1 (i1 := 37) (L1 := [some (.inr (.inr (some 12))), some (.inl v1), some (.inl v2), some (.inl v3)]) (st1 := [.inl v1, .inr (.inr (some 14)), .inr (.inr (some 12))]) rfl ?_
    obtain ⟨hin, hw⟩ := hw
    refine X_aI rfl rfl hin ?_
    show X _ _ 38 [some (.inr (.inr (some 12))), some (.inl v1), some (.inl v2), some (.inl v3)] [.inl (sA s 14 (Int32.toNatClampNeg v1)), .inr (.inr (some 12))] (hp s) _
    refine X_run 2 (i1 := 40) (L1 := [some (.inr (.inr (some 12))), some (.inl v1), some (.inl v2), some (.inl v3)]) (st1 := [.inl ((sA s 14 (Int32.toNatClampNeg v1)) + (1 : Int32)), .inr (.inr (some 12))]) rfl ?_
    obtain ⟨hc, hw⟩ := hw
    refine X_callv m_En_byteAt (As := [.inl ((sA s 14 (Int32.toNatClampNeg v1)) + (1 : Int32))]) (st := []) ok_En_byteAt rfl rfl rfl (hp_obj rfl) rfl (Nat.le_of_ble_eq_true rfl) (Nat.le_of_ble_eq_true rfl) (c_En_byteAt (d := d + 3) s ((sA s 14 (Int32.toNatClampNeg v1)) + (1 : Int32)) hc) ?_
    rintro _ _ ⟨rfl, rfl⟩
    show X _ _ 41 [some (.inr (.inr (some 12))), some (.inl v1), some (.inl v2), some (.inl v3)] [.inl (f_En_byteAt s ((sA s 14 (Int32.toNatClampNeg v1)) + (1 : Int32)))] (hp s) _
    refine X_run 8 (i1 := cond (cn2 .ne (((f_En_byteAt s ((sA s 14 (Int32.toNatClampNeg v1)) + (1 : Int32))) >>> ((v2 - (1 : Int32)) &&& 31)) &&& (1 : Int32)) (1 : Int32)) 55 49) (L1 := [some (.inr (.inr (some 12))), some (.inl v1), some (.inl v2), some (.inl v3)]) (st1 := []) rfl ?_
    refine X_brq (fun hb => ?_) (fun hb => ?_)
    · have hw := hw.1 hb
      exact ct_En_leaveByFault_55 fu s v1 v2 v3 hw
    · have hw := hw.2 hb
      refine X_run 4 (i1 := 53) (L1 := [some (.inr (.inr (some 12))), some (.inl v1), some (.inl v2), some (.inl v3)]) (st1 := [.inl v3, .inl v2, .inl v1, .inr (.inr (some 12))]) rfl ?_
      obtain ⟨hc, hw⟩ := hw
      refine X_callv m_En_beginHandler (As := [.inl v1, .inl v2, .inl v3]) (st := []) ok_En_beginHandler rfl rfl rfl (hp_obj rfl) rfl (Nat.le_of_ble_eq_true rfl) (Nat.le_of_ble_eq_true rfl) (c_En_beginHandler (d := d) fu s v1 v2 v3 hc) ?_
      rintro _ _ ⟨rfl, rfl⟩
      show X _ _ 54 [some (.inr (.inr (some 12))), some (.inl v1), some (.inl v2), some (.inl v3)] [] (hp (f_En_beginHandler fu s v1 v2 v3)) _
      refine X_run 1 (i1 := 60) (L1 := [some (.inr (.inr (some 12))), some (.inl v1), some (.inl v2), some (.inl v3)]) (st1 := []) rfl ?_
      exact X_ret rfl rfl qVs_i
def t_En_leaveByFault_24 (fu : Nat) (s : St) (v1 : Int32) (v2 : Int32) (v3 : Int32) : St := (t_En_leaveByFault_27 fu (f_Le_settle s) v1 v2 v3)
def w_En_leaveByFault_24 (fu : Nat) (s : St) (v1 : Int32) (v2 : Int32) (v3 : Int32) : Prop := (w_Le_settle s ∧ (w_En_leaveByFault_27 fu (f_Le_settle s) v1 v2 v3))
theorem ct_En_leaveByFault_24 {d : Nat} (fu : Nat) (s : St) (v1 : Int32) (v2 : Int32) (v3 : Int32) (hw : w_En_leaveByFault_24 fu s v1 v2 v3) : X m_En_leaveByFault (d + 4) 24 [some (.inr (.inr (some 12))), some (.inl v1), some (.inl v2), some (.inl v3)] [] (hp s) (qVs (t_En_leaveByFault_24 fu s v1 v2 v3)) := by
  unfold t_En_leaveByFault_24
  unfold w_En_leaveByFault_24 at hw
  refine X_run 1 (i1 := 25) (L1 := [some (.inr (.inr (some 12))), some (.inl v1), some (.inl v2), some (.inl v3)]) (st1 := [.inr (.inr (some 12))]) rfl ?_
  refine X_gF (v := .inr (.inr (some 1))) rfl rfl rfl rfl ?_
  obtain ⟨hc, hw⟩ := hw
  refine X_callv m_Le_settle (As := []) (st := []) ok_Le_settle rfl rfl rfl (hp_obj rfl) rfl (Nat.le_of_ble_eq_true rfl) (Nat.le_of_ble_eq_true rfl) (c_Le_settle (d := d + 3) s hc) ?_
  rintro _ _ ⟨rfl, rfl⟩
  show X _ _ 27 [some (.inr (.inr (some 12))), some (.inl v1), some (.inl v2), some (.inl v3)] [] (hp (f_Le_settle s)) _
  show X _ _ 27 [some (.inr (.inr (some 12))), some (.inl v1), some (.inl v2), some (.inl v3)] [] (hp (f_Le_settle s)) _
  exact ct_En_leaveByFault_27 fu (f_Le_settle s) v1 v2 v3 hw
def f_En_leaveByFault (fu : Nat) (s : St) (a0 : Int32) : St := (cond (cn2 .eq (sA s 13 (Int32.toNatClampNeg a0)) (3 : Int32)) (t_En_leaveByFault_24 fu s a0 (sI s 1 4) (sI s 1 5)) (cond (cn2 .eq (sA s 13 (Int32.toNatClampNeg a0)) (4 : Int32)) (t_En_leaveByFault_24 fu s a0 (sI s 1 4) (sI s 1 5)) (f_En_pop s a0)))
def w_En_leaveByFault (fu : Nat) (s : St) (a0 : Int32) : Prop := (vp_in a0 132 ∧ ((cn2 .eq (sA s 13 (Int32.toNatClampNeg a0)) (3 : Int32)) = true → (w_En_leaveByFault_24 fu s a0 (sI s 1 4) (sI s 1 5))) ∧ ((cn2 .eq (sA s 13 (Int32.toNatClampNeg a0)) (3 : Int32)) = false → (vp_in a0 132 ∧ ((cn2 .eq (sA s 13 (Int32.toNatClampNeg a0)) (4 : Int32)) = true → (w_En_leaveByFault_24 fu s a0 (sI s 1 4) (sI s 1 5))) ∧ ((cn2 .eq (sA s 13 (Int32.toNatClampNeg a0)) (4 : Int32)) = false → (w_En_pop s a0 ∧ True)))))
theorem c_En_leaveByFault {d : Nat} (fu : Nat) (s : St) (a0 : Int32) (hw : w_En_leaveByFault fu s a0) : X m_En_leaveByFault (d + 4) 0 (entL 4 [.inr (.inr (some 12)), .inl a0]) [] (hp s) (qVs (f_En_leaveByFault fu s a0)) := by
  unfold f_En_leaveByFault
  unfold w_En_leaveByFault at hw
  refine X_run 1 (i1 := 1) (L1 := [some (.inr (.inr (some 12))), some (.inl a0), none, none]) (st1 := [.inr (.inr (some 12))]) rfl ?_
  refine X_gF (v := .inr (.inr (some 1))) rfl rfl rfl rfl ?_
  refine X_gF (v := .inl (sI s 1 4)) rfl rfl rfl rfl ?_
  refine X_run 2 (i1 := 5) (L1 := [some (.inr (.inr (some 12))), some (.inl a0), some (.inl (sI s 1 4)), none]) (st1 := [.inr (.inr (some 12))]) rfl ?_
  refine X_gF (v := .inr (.inr (some 1))) rfl rfl rfl rfl ?_
  refine X_gF (v := .inl (sI s 1 5)) rfl rfl rfl rfl ?_
  refine X_run 2 (i1 := 9) (L1 := [some (.inr (.inr (some 12))), some (.inl a0), some (.inl (sI s 1 4)), some (.inl (sI s 1 5))]) (st1 := [.inr (.inr (some 12))]) rfl ?_
  refine X_gF (v := .inr (.inr (some 13))) rfl rfl rfl rfl ?_
  refine X_run 1 (i1 := 11) (L1 := [some (.inr (.inr (some 12))), some (.inl a0), some (.inl (sI s 1 4)), some (.inl (sI s 1 5))]) (st1 := [.inl a0, .inr (.inr (some 13))]) rfl ?_
  obtain ⟨hin, hw⟩ := hw
  refine X_aI rfl rfl hin ?_
  show X _ _ 12 [some (.inr (.inr (some 12))), some (.inl a0), some (.inl (sI s 1 4)), some (.inl (sI s 1 5))] [.inl (sA s 13 (Int32.toNatClampNeg a0))] (hp s) _
  refine X_run 2 (i1 := cond (cn2 .eq (sA s 13 (Int32.toNatClampNeg a0)) (3 : Int32)) 24 14) (L1 := [some (.inr (.inr (some 12))), some (.inl a0), some (.inl (sI s 1 4)), some (.inl (sI s 1 5))]) (st1 := []) rfl ?_
  refine X_brq (fun hb => ?_) (fun hb => ?_)
  · have hw := hw.1 hb
    exact ct_En_leaveByFault_24 fu s a0 (sI s 1 4) (sI s 1 5) hw
  · have hw := hw.2 hb
    refine X_run 1 (i1 := 15) (L1 := [some (.inr (.inr (some 12))), some (.inl a0), some (.inl (sI s 1 4)), some (.inl (sI s 1 5))]) (st1 := [.inr (.inr (some 12))]) rfl ?_
    refine X_gF (v := .inr (.inr (some 13))) rfl rfl rfl rfl ?_
    refine X_run 1 (i1 := 17) (L1 := [some (.inr (.inr (some 12))), some (.inl a0), some (.inl (sI s 1 4)), some (.inl (sI s 1 5))]) (st1 := [.inl a0, .inr (.inr (some 13))]) rfl ?_
    obtain ⟨hin, hw⟩ := hw
    refine X_aI rfl rfl hin ?_
    show X _ _ 18 [some (.inr (.inr (some 12))), some (.inl a0), some (.inl (sI s 1 4)), some (.inl (sI s 1 5))] [.inl (sA s 13 (Int32.toNatClampNeg a0))] (hp s) _
    refine X_run 2 (i1 := cond (cn2 .eq (sA s 13 (Int32.toNatClampNeg a0)) (4 : Int32)) 24 20) (L1 := [some (.inr (.inr (some 12))), some (.inl a0), some (.inl (sI s 1 4)), some (.inl (sI s 1 5))]) (st1 := []) rfl ?_
    refine X_brq (fun hb => ?_) (fun hb => ?_)
    · have hw := hw.1 hb
      exact ct_En_leaveByFault_24 fu s a0 (sI s 1 4) (sI s 1 5) hw
    · have hw := hw.2 hb
      refine X_run 2 (i1 := 22) (L1 := [some (.inr (.inr (some 12))), some (.inl a0), some (.inl (sI s 1 4)), some (.inl (sI s 1 5))]) (st1 := [.inl a0, .inr (.inr (some 12))]) rfl ?_
      obtain ⟨hc, hw⟩ := hw
      refine X_callv m_En_pop (As := [.inl a0]) (st := []) ok_En_pop rfl rfl rfl (hp_obj rfl) rfl (Nat.le_of_ble_eq_true rfl) (Nat.le_of_ble_eq_true rfl) (c_En_pop (d := d + 3) s a0 hc) ?_
      rintro _ _ ⟨rfl, rfl⟩
      show X _ _ 23 [some (.inr (.inr (some 12))), some (.inl a0), some (.inl (sI s 1 4)), some (.inl (sI s 1 5))] [] (hp (f_En_pop s a0)) _
      exact X_ret rfl rfl qVs_i
abbrev LT_En_perform_13 : Type := (St → Int32 → Int32 → Int32 × St) × (St → Int32 → Int32 × St) × (St → Int32 → Int32 → Int32 × St) × (St → Int32 → Int32 → Int32 × St) × (St → Int32 → Int32 → Int32 × St)
abbrev LW_En_perform_13 : Type := (St → Int32 → Int32 → Prop) × (St → Int32 → Prop) × (St → Int32 → Int32 → Prop) × (St → Int32 → Int32 → Prop) × (St → Int32 → Int32 → Prop)
def hl_En_perform_13 (d : Nat) (lp : LT_En_perform_13) (wlp : LW_En_perform_13) : Prop := (∀ (s : St) (v2 : Int32) (v3 : Int32), wlp.1 s v2 v3 → X m_En_perform d 13 [some (.inr (.inr (some 12))), none, some (.inl v2), some (.inl v3)] [] (hp s) (qIs (lp.1 s v2 v3))) ∧ (∀ (s : St) (v3 : Int32), wlp.2.1 s v3 → X m_En_perform d 31 [some (.inr (.inr (some 12))), none, none, some (.inl v3)] [] (hp s) (qIs (lp.2.1 s v3))) ∧ (∀ (s : St) (v2 : Int32) (v3 : Int32), wlp.2.2.1 s v2 v3 → X m_En_perform d 45 [some (.inr (.inr (some 12))), none, some (.inl v2), some (.inl v3)] [] (hp s) (qIs (lp.2.2.1 s v2 v3))) ∧ (∀ (s : St) (v2 : Int32) (v3 : Int32), wlp.2.2.2.1 s v2 v3 → X m_En_perform d 67 [some (.inr (.inr (some 12))), none, some (.inl v2), some (.inl v3)] [] (hp s) (qIs (lp.2.2.2.1 s v2 v3))) ∧ (∀ (s : St) (v2 : Int32) (v3 : Int32), wlp.2.2.2.2 s v2 v3 → X m_En_perform d 74 [some (.inr (.inr (some 12))), none, some (.inl v2), some (.inl v3)] [] (hp s) (qIs (lp.2.2.2.2 s v2 v3)))
def b_En_perform_13 (fu : Nat) (lp : LT_En_perform_13) (s : St) (v2 : Int32) (v3 : Int32) : Int32 × St := (cond (cn2 .ge v3 (1000000 : Int32)) (sI s 1 3, s) (cond (cn1 .ne v2) (sI s 1 3, s) (cond (cn1 .eq (sI s 12 12)) (lp.2.1 s v3) (cond (cn2 .eq (sI s 1 3) (2 : Int32)) (lp.2.1 s v3) (cond (cn2 .ne (sI s 1 3) (3 : Int32)) (cond (cn2 .ne (sI s 1 3) (1 : Int32)) (cond (cn2 .ge (sA s 15 (Int32.toNatClampNeg ((sI s 12 12) - (1 : Int32)))) (sA s 16 (Int32.toNatClampNeg ((sI s 12 12) - (1 : Int32))))) (lp.2.2.2.2 (f_En_leave s ((sI s 12 12) - (1 : Int32))) v2 v3) (lp.2.2.2.1 (f_En_beginOp fu s ((sI s 12 12) - (1 : Int32))) v2 v3)) (lp.2.2.1 (f_En_leaveByFault fu s ((sI s 12 12) - (1 : Int32))) v2 v3)) (lp.2.1 s v3))))))
def v_En_perform_13 (fu : Nat) (lp : LT_En_perform_13) (wlp : LW_En_perform_13) (s : St) (v2 : Int32) (v3 : Int32) : Prop := ((cn2 .ge v3 (1000000 : Int32)) = true → True) ∧ ((cn2 .ge v3 (1000000 : Int32)) = false → ((cn1 .ne v2) = true → True) ∧ ((cn1 .ne v2) = false → ((cn1 .eq (sI s 12 12)) = true → (wlp.2.1 s v3)) ∧ ((cn1 .eq (sI s 12 12)) = false → ((cn2 .eq (sI s 1 3) (2 : Int32)) = true → (wlp.2.1 s v3)) ∧ ((cn2 .eq (sI s 1 3) (2 : Int32)) = false → ((cn2 .ne (sI s 1 3) (3 : Int32)) = true → ((cn2 .ne (sI s 1 3) (1 : Int32)) = true → (vp_in ((sI s 12 12) - (1 : Int32)) 132 ∧ (vp_in ((sI s 12 12) - (1 : Int32)) 132 ∧ ((cn2 .ge (sA s 15 (Int32.toNatClampNeg ((sI s 12 12) - (1 : Int32)))) (sA s 16 (Int32.toNatClampNeg ((sI s 12 12) - (1 : Int32))))) = true → (w_En_leave s ((sI s 12 12) - (1 : Int32)) ∧ (wlp.2.2.2.2 (f_En_leave s ((sI s 12 12) - (1 : Int32))) v2 v3))) ∧ ((cn2 .ge (sA s 15 (Int32.toNatClampNeg ((sI s 12 12) - (1 : Int32)))) (sA s 16 (Int32.toNatClampNeg ((sI s 12 12) - (1 : Int32))))) = false → (w_En_beginOp fu s ((sI s 12 12) - (1 : Int32)) ∧ (wlp.2.2.2.1 (f_En_beginOp fu s ((sI s 12 12) - (1 : Int32))) v2 v3)))))) ∧ ((cn2 .ne (sI s 1 3) (1 : Int32)) = false → (w_En_leaveByFault fu s ((sI s 12 12) - (1 : Int32)) ∧ (wlp.2.2.1 (f_En_leaveByFault fu s ((sI s 12 12) - (1 : Int32))) v2 v3)))) ∧ ((cn2 .ne (sI s 1 3) (3 : Int32)) = false → (wlp.2.1 s v3))))))
theorem cb_En_perform_13 {d : Nat} (fu : Nat) {lp : LT_En_perform_13} {wlp : LW_En_perform_13} (hlp : hl_En_perform_13 (d + 39) lp wlp) (s : St) (v2 : Int32) (v3 : Int32) (hw : v_En_perform_13 fu lp wlp s v2 v3) : X m_En_perform (d + 39) 13 [some (.inr (.inr (some 12))), none, some (.inl v2), some (.inl v3)] [] (hp s) (qIs (b_En_perform_13 fu lp s v2 v3)) := by
  unfold b_En_perform_13
  unfold v_En_perform_13 at hw
  refine X_run 3 (i1 := cond (cn2 .ge v3 (1000000 : Int32)) 76 16) (L1 := [some (.inr (.inr (some 12))), none, some (.inl v2), some (.inl v3)]) (st1 := []) rfl ?_
  refine X_brq (fun hb => ?_) (fun hb => ?_)
  · skip
    refine X_run 1 (i1 := 77) (L1 := [some (.inr (.inr (some 12))), none, some (.inl v2), some (.inl v3)]) (st1 := [.inr (.inr (some 12))]) rfl ?_
    refine X_gF (v := .inr (.inr (some 1))) rfl rfl rfl rfl ?_
    refine X_gF (v := .inl (sI s 1 3)) rfl rfl rfl rfl ?_
    exact X_iret rfl rfl qIs_i
  · have hw := hw.2 hb
    refine X_run 2 (i1 := cond (cn1 .ne v2) 76 18) (L1 := [some (.inr (.inr (some 12))), none, some (.inl v2), some (.inl v3)]) (st1 := []) rfl ?_
    refine X_brq (fun hb => ?_) (fun hb => ?_)
    · skip
      refine X_run 1 (i1 := 77) (L1 := [some (.inr (.inr (some 12))), none, some (.inl v2), some (.inl v3)]) (st1 := [.inr (.inr (some 12))]) rfl ?_
      refine X_gF (v := .inr (.inr (some 1))) rfl rfl rfl rfl ?_
      refine X_gF (v := .inl (sI s 1 3)) rfl rfl rfl rfl ?_
      exact X_iret rfl rfl qIs_i
    · have hw := hw.2 hb
      refine X_run 1 (i1 := 19) (L1 := [some (.inr (.inr (some 12))), none, some (.inl v2), some (.inl v3)]) (st1 := [.inr (.inr (some 12))]) rfl ?_
      refine X_gF (v := .inl (sI s 12 12)) rfl rfl rfl rfl ?_
      refine X_run 1 (i1 := cond (cn1 .eq (sI s 12 12)) 31 21) (L1 := [some (.inr (.inr (some 12))), none, some (.inl v2), some (.inl v3)]) (st1 := []) rfl ?_
      refine X_brq (fun hb => ?_) (fun hb => ?_)
      · have hw := hw.1 hb
        refine X_mask [true, true, false, true] ?_
        exact hlp.2.1 s v3 hw
      · have hw := hw.2 hb
        refine X_run 1 (i1 := 22) (L1 := [some (.inr (.inr (some 12))), none, some (.inl v2), some (.inl v3)]) (st1 := [.inr (.inr (some 12))]) rfl ?_
        refine X_gF (v := .inr (.inr (some 1))) rfl rfl rfl rfl ?_
        refine X_gF (v := .inl (sI s 1 3)) rfl rfl rfl rfl ?_
        refine X_run 2 (i1 := cond (cn2 .eq (sI s 1 3) (2 : Int32)) 31 26) (L1 := [some (.inr (.inr (some 12))), none, some (.inl v2), some (.inl v3)]) (st1 := []) rfl ?_
        refine X_brq (fun hb => ?_) (fun hb => ?_)
        · have hw := hw.1 hb
          refine X_mask [true, true, false, true] ?_
          exact hlp.2.1 s v3 hw
        · have hw := hw.2 hb
          refine X_run 1 (i1 := 27) (L1 := [some (.inr (.inr (some 12))), none, some (.inl v2), some (.inl v3)]) (st1 := [.inr (.inr (some 12))]) rfl ?_
          refine X_gF (v := .inr (.inr (some 1))) rfl rfl rfl rfl ?_
          refine X_gF (v := .inl (sI s 1 3)) rfl rfl rfl rfl ?_
          refine X_run 2 (i1 := cond (cn2 .ne (sI s 1 3) (3 : Int32)) 34 31) (L1 := [some (.inr (.inr (some 12))), none, some (.inl v2), some (.inl v3)]) (st1 := []) rfl ?_
          refine X_brq (fun hb => ?_) (fun hb => ?_)
          · have hw := hw.1 hb
            refine X_run 1 (i1 := 35) (L1 := [some (.inr (.inr (some 12))), none, some (.inl v2), some (.inl v3)]) (st1 := [.inr (.inr (some 12))]) rfl ?_
            refine X_gF (v := .inr (.inr (some 1))) rfl rfl rfl rfl ?_
            refine X_gF (v := .inl (sI s 1 3)) rfl rfl rfl rfl ?_
            refine X_run 2 (i1 := cond (cn2 .ne (sI s 1 3) (1 : Int32)) 46 39) (L1 := [some (.inr (.inr (some 12))), none, some (.inl v2), some (.inl v3)]) (st1 := []) rfl ?_
            refine X_brq (fun hb => ?_) (fun hb => ?_)
            · have hw := hw.1 hb
              refine X_run 1 (i1 := 47) (L1 := [some (.inr (.inr (some 12))), none, some (.inl v2), some (.inl v3)]) (st1 := [.inr (.inr (some 12))]) rfl ?_
              refine X_gF (v := .inr (.inr (some 15))) rfl rfl rfl rfl ?_
              refine X_run 1 (i1 := 49) (L1 := [some (.inr (.inr (some 12))), none, some (.inl v2), some (.inl v3)]) (st1 := [.inr (.inr (some 12)), .inr (.inr (some 15))]) rfl ?_
              refine X_gF (v := .inl (sI s 12 12)) rfl rfl rfl rfl ?_
              refine X_run 2 (i1 := 52) (L1 := [some (.inr (.inr (some 12))), none, some (.inl v2), some (.inl v3)]) (st1 := [.inl ((sI s 12 12) - (1 : Int32)), .inr (.inr (some 15))]) rfl ?_
              obtain ⟨hin, hw⟩ := hw
              refine X_aI rfl rfl hin ?_
              show X _ _ 53 [some (.inr (.inr (some 12))), none, some (.inl v2), some (.inl v3)] [.inl (sA s 15 (Int32.toNatClampNeg ((sI s 12 12) - (1 : Int32))))] (hp s) _
              refine X_run 1 (i1 := 54) (L1 := [some (.inr (.inr (some 12))), none, some (.inl v2), some (.inl v3)]) (st1 := [.inr (.inr (some 12)), .inl (sA s 15 (Int32.toNatClampNeg ((sI s 12 12) - (1 : Int32))))]) rfl ?_
              refine X_gF (v := .inr (.inr (some 16))) rfl rfl rfl rfl ?_
              refine X_run 1 (i1 := 56) (L1 := [some (.inr (.inr (some 12))), none, some (.inl v2), some (.inl v3)]) (st1 := [.inr (.inr (some 12)), .inr (.inr (some 16)), .inl (sA s 15 (Int32.toNatClampNeg ((sI s 12 12) - (1 : Int32))))]) rfl ?_
              refine X_gF (v := .inl (sI s 12 12)) rfl rfl rfl rfl ?_
              refine X_run 2 (i1 := 59) (L1 := [some (.inr (.inr (some 12))), none, some (.inl v2), some (.inl v3)]) (st1 := [.inl ((sI s 12 12) - (1 : Int32)), .inr (.inr (some 16)), .inl (sA s 15 (Int32.toNatClampNeg ((sI s 12 12) - (1 : Int32))))]) rfl ?_
              obtain ⟨hin, hw⟩ := hw
              refine X_aI rfl rfl hin ?_
              show X _ _ 60 [some (.inr (.inr (some 12))), none, some (.inl v2), some (.inl v3)] [.inl (sA s 16 (Int32.toNatClampNeg ((sI s 12 12) - (1 : Int32)))), .inl (sA s 15 (Int32.toNatClampNeg ((sI s 12 12) - (1 : Int32))))] (hp s) _
              refine X_run 1 (i1 := cond (cn2 .ge (sA s 15 (Int32.toNatClampNeg ((sI s 12 12) - (1 : Int32)))) (sA s 16 (Int32.toNatClampNeg ((sI s 12 12) - (1 : Int32))))) 68 61) (L1 := [some (.inr (.inr (some 12))), none, some (.inl v2), some (.inl v3)]) (st1 := []) rfl ?_
              refine X_brq (fun hb => ?_) (fun hb => ?_)
              · have hw := hw.1 hb
                refine X_run 2 (i1 := 70) (L1 := [some (.inr (.inr (some 12))), none, some (.inl v2), some (.inl v3)]) (st1 := [.inr (.inr (some 12)), .inr (.inr (some 12))]) rfl ?_
                refine X_gF (v := .inl (sI s 12 12)) rfl rfl rfl rfl ?_
                refine X_run 2 (i1 := 73) (L1 := [some (.inr (.inr (some 12))), none, some (.inl v2), some (.inl v3)]) (st1 := [.inl ((sI s 12 12) - (1 : Int32)), .inr (.inr (some 12))]) rfl ?_
                obtain ⟨hc, hw⟩ := hw
                refine X_callv m_En_leave (As := [.inl ((sI s 12 12) - (1 : Int32))]) (st := []) ok_En_leave rfl rfl rfl (hp_obj rfl) rfl (Nat.le_of_ble_eq_true rfl) (Nat.le_of_ble_eq_true rfl) (c_En_leave (d := d + 35) s ((sI s 12 12) - (1 : Int32)) hc) ?_
                rintro _ _ ⟨rfl, rfl⟩
                show X _ _ 74 [some (.inr (.inr (some 12))), none, some (.inl v2), some (.inl v3)] [] (hp (f_En_leave s ((sI s 12 12) - (1 : Int32)))) _
                show X _ _ 74 [some (.inr (.inr (some 12))), none, some (.inl v2), some (.inl v3)] [] (hp (f_En_leave s ((sI s 12 12) - (1 : Int32)))) _
                exact hlp.2.2.2.2 (f_En_leave s ((sI s 12 12) - (1 : Int32))) v2 v3 hw
              · have hw := hw.2 hb
                refine X_run 2 (i1 := 63) (L1 := [some (.inr (.inr (some 12))), none, some (.inl v2), some (.inl v3)]) (st1 := [.inr (.inr (some 12)), .inr (.inr (some 12))]) rfl ?_
                refine X_gF (v := .inl (sI s 12 12)) rfl rfl rfl rfl ?_
                refine X_run 2 (i1 := 66) (L1 := [some (.inr (.inr (some 12))), none, some (.inl v2), some (.inl v3)]) (st1 := [.inl ((sI s 12 12) - (1 : Int32)), .inr (.inr (some 12))]) rfl ?_
                obtain ⟨hc, hw⟩ := hw
                refine X_callv m_En_beginOp (As := [.inl ((sI s 12 12) - (1 : Int32))]) (st := []) ok_En_beginOp rfl rfl rfl (hp_obj rfl) rfl (Nat.le_of_ble_eq_true rfl) (Nat.le_of_ble_eq_true rfl) (c_En_beginOp (d := d) fu s ((sI s 12 12) - (1 : Int32)) hc) ?_
                rintro _ _ ⟨rfl, rfl⟩
                show X _ _ 67 [some (.inr (.inr (some 12))), none, some (.inl v2), some (.inl v3)] [] (hp (f_En_beginOp fu s ((sI s 12 12) - (1 : Int32)))) _
                show X _ _ 67 [some (.inr (.inr (some 12))), none, some (.inl v2), some (.inl v3)] [] (hp (f_En_beginOp fu s ((sI s 12 12) - (1 : Int32)))) _
                exact hlp.2.2.2.1 (f_En_beginOp fu s ((sI s 12 12) - (1 : Int32))) v2 v3 hw
            · have hw := hw.2 hb
              refine X_run 2 (i1 := 41) (L1 := [some (.inr (.inr (some 12))), none, some (.inl v2), some (.inl v3)]) (st1 := [.inr (.inr (some 12)), .inr (.inr (some 12))]) rfl ?_
              refine X_gF (v := .inl (sI s 12 12)) rfl rfl rfl rfl ?_
              refine X_run 2 (i1 := 44) (L1 := [some (.inr (.inr (some 12))), none, some (.inl v2), some (.inl v3)]) (st1 := [.inl ((sI s 12 12) - (1 : Int32)), .inr (.inr (some 12))]) rfl ?_
              obtain ⟨hc, hw⟩ := hw
              refine X_callv m_En_leaveByFault (As := [.inl ((sI s 12 12) - (1 : Int32))]) (st := []) ok_En_leaveByFault rfl rfl rfl (hp_obj rfl) rfl (Nat.le_of_ble_eq_true rfl) (Nat.le_of_ble_eq_true rfl) (c_En_leaveByFault (d := d + 34) fu s ((sI s 12 12) - (1 : Int32)) hc) ?_
              rintro _ _ ⟨rfl, rfl⟩
              show X _ _ 45 [some (.inr (.inr (some 12))), none, some (.inl v2), some (.inl v3)] [] (hp (f_En_leaveByFault fu s ((sI s 12 12) - (1 : Int32)))) _
              show X _ _ 45 [some (.inr (.inr (some 12))), none, some (.inl v2), some (.inl v3)] [] (hp (f_En_leaveByFault fu s ((sI s 12 12) - (1 : Int32)))) _
              exact hlp.2.2.1 (f_En_leaveByFault fu s ((sI s 12 12) - (1 : Int32))) v2 v3 hw
          · have hw := hw.2 hb
            refine X_mask [true, true, false, true] ?_
            exact hlp.2.1 s v3 hw
def b_En_perform_31 (fu : Nat) (lp : LT_En_perform_13) (s : St) (v3 : Int32) : Int32 × St := (lp.2.2.2.2 s (1 : Int32) v3)
def v_En_perform_31 (fu : Nat) (lp : LT_En_perform_13) (wlp : LW_En_perform_13) (s : St) (v3 : Int32) : Prop := (wlp.2.2.2.2 s (1 : Int32) v3)
theorem cb_En_perform_31 {d : Nat} (fu : Nat) {lp : LT_En_perform_13} {wlp : LW_En_perform_13} (hlp : hl_En_perform_13 (d + 39) lp wlp) (s : St) (v3 : Int32) (hw : v_En_perform_31 fu lp wlp s v3) : X m_En_perform (d + 39) 31 [some (.inr (.inr (some 12))), none, none, some (.inl v3)] [] (hp s) (qIs (b_En_perform_31 fu lp s v3)) := by
  unfold b_En_perform_31
  unfold v_En_perform_31 at hw
  refine X_run 3 (i1 := 74) (L1 := [some (.inr (.inr (some 12))), none, some (.inl (1 : Int32)), some (.inl v3)]) (st1 := []) rfl ?_
  exact hlp.2.2.2.2 s (1 : Int32) v3 hw
def b_En_perform_45 (fu : Nat) (lp : LT_En_perform_13) (s : St) (v2 : Int32) (v3 : Int32) : Int32 × St := (lp.2.2.2.2 s v2 v3)
def v_En_perform_45 (fu : Nat) (lp : LT_En_perform_13) (wlp : LW_En_perform_13) (s : St) (v2 : Int32) (v3 : Int32) : Prop := (wlp.2.2.2.2 s v2 v3)
theorem cb_En_perform_45 {d : Nat} (fu : Nat) {lp : LT_En_perform_13} {wlp : LW_En_perform_13} (hlp : hl_En_perform_13 (d + 39) lp wlp) (s : St) (v2 : Int32) (v3 : Int32) (hw : v_En_perform_45 fu lp wlp s v2 v3) : X m_En_perform (d + 39) 45 [some (.inr (.inr (some 12))), none, some (.inl v2), some (.inl v3)] [] (hp s) (qIs (b_En_perform_45 fu lp s v2 v3)) := by
  unfold b_En_perform_45
  unfold v_En_perform_45 at hw
  refine X_run 1 (i1 := 74) (L1 := [some (.inr (.inr (some 12))), none, some (.inl v2), some (.inl v3)]) (st1 := []) rfl ?_
  exact hlp.2.2.2.2 s v2 v3 hw
def b_En_perform_67 (fu : Nat) (lp : LT_En_perform_13) (s : St) (v2 : Int32) (v3 : Int32) : Int32 × St := (lp.2.2.2.2 s v2 v3)
def v_En_perform_67 (fu : Nat) (lp : LT_En_perform_13) (wlp : LW_En_perform_13) (s : St) (v2 : Int32) (v3 : Int32) : Prop := (wlp.2.2.2.2 s v2 v3)
theorem cb_En_perform_67 {d : Nat} (fu : Nat) {lp : LT_En_perform_13} {wlp : LW_En_perform_13} (hlp : hl_En_perform_13 (d + 39) lp wlp) (s : St) (v2 : Int32) (v3 : Int32) (hw : v_En_perform_67 fu lp wlp s v2 v3) : X m_En_perform (d + 39) 67 [some (.inr (.inr (some 12))), none, some (.inl v2), some (.inl v3)] [] (hp s) (qIs (b_En_perform_67 fu lp s v2 v3)) := by
  unfold b_En_perform_67
  unfold v_En_perform_67 at hw
  refine X_run 1 (i1 := 74) (L1 := [some (.inr (.inr (some 12))), none, some (.inl v2), some (.inl v3)]) (st1 := []) rfl ?_
  exact hlp.2.2.2.2 s v2 v3 hw
def b_En_perform_74 (fu : Nat) (lp : LT_En_perform_13) (s : St) (v2 : Int32) (v3 : Int32) : Int32 × St := (lp.1 s v2 (v3 + Int32.ofInt (1)))
def v_En_perform_74 (fu : Nat) (lp : LT_En_perform_13) (wlp : LW_En_perform_13) (s : St) (v2 : Int32) (v3 : Int32) : Prop := (wlp.1 s v2 (v3 + Int32.ofInt (1)))
theorem cb_En_perform_74 {d : Nat} (fu : Nat) {lp : LT_En_perform_13} {wlp : LW_En_perform_13} (hlp : hl_En_perform_13 (d + 39) lp wlp) (s : St) (v2 : Int32) (v3 : Int32) (hw : v_En_perform_74 fu lp wlp s v2 v3) : X m_En_perform (d + 39) 74 [some (.inr (.inr (some 12))), none, some (.inl v2), some (.inl v3)] [] (hp s) (qIs (b_En_perform_74 fu lp s v2 v3)) := by
  unfold b_En_perform_74
  unfold v_En_perform_74 at hw
  refine X_run 2 (i1 := 13) (L1 := [some (.inr (.inr (some 12))), none, some (.inl v2), some (.inl (v3 + Int32.ofInt (1)))]) (st1 := []) rfl ?_
  exact hlp.1 s v2 (v3 + Int32.ofInt (1)) hw
def T_En_perform_13 (fu : Nat) : Nat → LT_En_perform_13
  | 0 => (fun s _ _ => (0, s), fun s _ => (0, s), fun s _ _ => (0, s), fun s _ _ => (0, s), fun s _ _ => (0, s))
  | n + 1 => (fun s v2 v3 => b_En_perform_13 fu (T_En_perform_13 fu n) s v2 v3, fun s v3 => b_En_perform_31 fu (T_En_perform_13 fu n) s v3, fun s v2 v3 => b_En_perform_45 fu (T_En_perform_13 fu n) s v2 v3, fun s v2 v3 => b_En_perform_67 fu (T_En_perform_13 fu n) s v2 v3, fun s v2 v3 => b_En_perform_74 fu (T_En_perform_13 fu n) s v2 v3)
def WT_En_perform_13 (fu : Nat) : Nat → LW_En_perform_13
  | 0 => (fun _ _ _ => False, fun _ _ => False, fun _ _ _ => False, fun _ _ _ => False, fun _ _ _ => False)
  | n + 1 => (fun s v2 v3 => v_En_perform_13 fu (T_En_perform_13 fu n) (WT_En_perform_13 fu n) s v2 v3, fun s v3 => v_En_perform_31 fu (T_En_perform_13 fu n) (WT_En_perform_13 fu n) s v3, fun s v2 v3 => v_En_perform_45 fu (T_En_perform_13 fu n) (WT_En_perform_13 fu n) s v2 v3, fun s v2 v3 => v_En_perform_67 fu (T_En_perform_13 fu n) (WT_En_perform_13 fu n) s v2 v3, fun s v2 v3 => v_En_perform_74 fu (T_En_perform_13 fu n) (WT_En_perform_13 fu n) s v2 v3)
theorem cT_En_perform_13 {d : Nat} (fu : Nat) : ∀ n : Nat, hl_En_perform_13 (d + 39) (T_En_perform_13 fu n) (WT_En_perform_13 fu n)
  | 0 => ⟨fun _ _ _ hw => hw.elim, fun _ _ hw => hw.elim, fun _ _ _ hw => hw.elim, fun _ _ _ hw => hw.elim, fun _ _ _ hw => hw.elim⟩
  | n + 1 => ⟨fun s v2 v3 hw => cb_En_perform_13 fu (cT_En_perform_13 fu n) s v2 v3 hw, fun s v3 hw => cb_En_perform_31 fu (cT_En_perform_13 fu n) s v3 hw, fun s v2 v3 hw => cb_En_perform_45 fu (cT_En_perform_13 fu n) s v2 v3 hw, fun s v2 v3 hw => cb_En_perform_67 fu (cT_En_perform_13 fu n) s v2 v3 hw, fun s v2 v3 hw => cb_En_perform_74 fu (cT_En_perform_13 fu n) s v2 v3 hw⟩
def t_En_perform_9 (fu : Nat) (s : St) : Int32 × St := ((T_En_perform_13 fu fu).1 s (0 : Int32) (0 : Int32))
def w_En_perform_9 (fu : Nat) (s : St) : Prop := ((WT_En_perform_13 fu fu).1 s (0 : Int32) (0 : Int32))
theorem ct_En_perform_9 {d : Nat} (fu : Nat) (s : St) (hw : w_En_perform_9 fu s) : X m_En_perform (d + 39) 9 [some (.inr (.inr (some 12))), none, none, none] [] (hp s) (qIs (t_En_perform_9 fu s)) := by
  unfold t_En_perform_9
  unfold w_En_perform_9 at hw
  refine X_run 4 (i1 := 13) (L1 := [some (.inr (.inr (some 12))), none, some (.inl (0 : Int32)), some (.inl (0 : Int32))]) (st1 := []) rfl ?_
  exact (cT_En_perform_13 fu fu).1 s (0 : Int32) (0 : Int32) hw
def f_En_perform (fu : Nat) (s : St) (a0 : Int32) : Int32 × St := (t_En_perform_9 fu (f_En_beginPatch (pI (pI s 12 12 (0 : Int32)) 12 13 (0 : Int32)) a0))
def w_En_perform (fu : Nat) (s : St) (a0 : Int32) : Prop := (w_En_beginPatch (pI (pI s 12 12 (0 : Int32)) 12 13 (0 : Int32)) a0 ∧ (w_En_perform_9 fu (f_En_beginPatch (pI (pI s 12 12 (0 : Int32)) 12 13 (0 : Int32)) a0)))
theorem c_En_perform {d : Nat} (fu : Nat) (s : St) (a0 : Int32) (hw : w_En_perform fu s a0) : X m_En_perform (d + 39) 0 (entL 4 [.inr (.inr (some 12)), .inl a0]) [] (hp s) (qIs (f_En_perform fu s a0)) := by
  unfold f_En_perform
  unfold w_En_perform at hw
  refine X_run 2 (i1 := 2) (L1 := [some (.inr (.inr (some 12))), some (.inl a0), none, none]) (st1 := [.inl (0 : Int32), .inr (.inr (some 12))]) rfl ?_
  refine X_pI rfl rfl rfl rfl ?_
  refine X_run 2 (i1 := 5) (L1 := [some (.inr (.inr (some 12))), some (.inl a0), none, none]) (st1 := [.inl (0 : Int32), .inr (.inr (some 12))]) rfl ?_
  refine X_pI rfl rfl rfl rfl ?_
  refine X_run 2 (i1 := 8) (L1 := [some (.inr (.inr (some 12))), some (.inl a0), none, none]) (st1 := [.inl a0, .inr (.inr (some 12))]) rfl ?_
  obtain ⟨hc, hw⟩ := hw
  refine X_callv m_En_beginPatch (As := [.inl a0]) (st := []) ok_En_beginPatch rfl rfl rfl (hp_obj rfl) rfl (Nat.le_of_ble_eq_true rfl) (Nat.le_of_ble_eq_true rfl) (c_En_beginPatch (d := d + 36) (pI (pI s 12 12 (0 : Int32)) 12 13 (0 : Int32)) a0 hc) ?_
  rintro _ _ ⟨rfl, rfl⟩
  show X _ _ 9 [some (.inr (.inr (some 12))), some (.inl a0), none, none] [] (hp (f_En_beginPatch (pI (pI s 12 12 (0 : Int32)) 12 13 (0 : Int32)) a0)) _
  show X _ _ 9 [some (.inr (.inr (some 12))), some (.inl a0), none, none] [] (hp (f_En_beginPatch (pI (pI s 12 12 (0 : Int32)) 12 13 (0 : Int32)) a0)) _
  refine X_mask [true, false, true, true] ?_
  exact ct_En_perform_9 fu (f_En_beginPatch (pI (pI s 12 12 (0 : Int32)) 12 13 (0 : Int32)) a0) hw
