def f_M_thrown (s : St) : Int32 := (sI s 21 0)
def w_M_thrown (s : St) : Prop := True
theorem c_M_thrown {d : Nat} (s : St) (hw : w_M_thrown s) : X m_M_thrown (d) 0 (entL 1 [.inr (.inr (some 21))]) [] (hp s) (qI (hp s) (f_M_thrown s)) := by
  unfold f_M_thrown
  unfold w_M_thrown at hw
  refine X_run 1 (i1 := 1) (L1 := [some (.inr (.inr (some 21)))]) (st1 := [.inr (.inr (some 21))]) rfl ?_
  refine X_gF (v := .inl (sI s 21 0)) rfl rfl rfl rfl ?_
  exact X_iret rfl rfl qI_i
def f_M_isRow (s : St) (a0 : Int32) : Bool := (cond (cn1 .le (sA s 22 (Int32.toNatClampNeg a0))) false (cond (cn2 .ge (sA s 22 (Int32.toNatClampNeg a0)) (9 : Int32)) false true))
def w_M_isRow (s : St) (a0 : Int32) : Prop := (vp_in a0 40001 ∧ ((cn1 .le (sA s 22 (Int32.toNatClampNeg a0))) = true → True) ∧ ((cn1 .le (sA s 22 (Int32.toNatClampNeg a0))) = false → (vp_in a0 40001 ∧ True)))
theorem c_M_isRow {d : Nat} (s : St) (a0 : Int32) (hw : w_M_isRow s a0) : X m_M_isRow (d) 0 (entL 2 [.inr (.inr (some 21)), .inl a0]) [] (hp s) (qB (hp s) (f_M_isRow s a0)) := by
  unfold f_M_isRow
  unfold w_M_isRow at hw
  refine X_run 1 (i1 := 1) (L1 := [some (.inr (.inr (some 21))), some (.inl a0)]) (st1 := [.inr (.inr (some 21))]) rfl ?_
  refine X_gF (v := .inr (.inr (some 22))) rfl rfl rfl rfl ?_
  refine X_run 1 (i1 := 3) (L1 := [some (.inr (.inr (some 21))), some (.inl a0)]) (st1 := [.inl a0, .inr (.inr (some 22))]) rfl ?_
  obtain ⟨hin, hw⟩ := hw
  refine X_aI rfl rfl hin ?_
  show X _ _ 4 [some (.inr (.inr (some 21))), some (.inl a0)] [.inl (sA s 22 (Int32.toNatClampNeg a0))] (hp s) _
  refine X_run 1 (i1 := cond (cn1 .le (sA s 22 (Int32.toNatClampNeg a0))) 13 5) (L1 := [some (.inr (.inr (some 21))), some (.inl a0)]) (st1 := []) rfl ?_
  refine X_brq (fun hb => ?_) (fun hb => ?_)
  · skip
    refine X_run 1 (i1 := 14) (L1 := [some (.inr (.inr (some 21))), some (.inl a0)]) (st1 := [.inl (0 : Int32)]) rfl ?_
    exact X_zret rfl rfl (b2i_01 false) qB_i
  · have hw := hw.2 hb
    refine X_run 1 (i1 := 6) (L1 := [some (.inr (.inr (some 21))), some (.inl a0)]) (st1 := [.inr (.inr (some 21))]) rfl ?_
    refine X_gF (v := .inr (.inr (some 22))) rfl rfl rfl rfl ?_
    refine X_run 1 (i1 := 8) (L1 := [some (.inr (.inr (some 21))), some (.inl a0)]) (st1 := [.inl a0, .inr (.inr (some 22))]) rfl ?_
    obtain ⟨hin, hw⟩ := hw
    refine X_aI rfl rfl hin ?_
    show X _ _ 9 [some (.inr (.inr (some 21))), some (.inl a0)] [.inl (sA s 22 (Int32.toNatClampNeg a0))] (hp s) _
    refine X_run 2 (i1 := cond (cn2 .ge (sA s 22 (Int32.toNatClampNeg a0)) (9 : Int32)) 13 11) (L1 := [some (.inr (.inr (some 21))), some (.inl a0)]) (st1 := []) rfl ?_
    refine X_brq (fun hb => ?_) (fun hb => ?_)
    · skip
      refine X_run 1 (i1 := 14) (L1 := [some (.inr (.inr (some 21))), some (.inl a0)]) (st1 := [.inl (0 : Int32)]) rfl ?_
      exact X_zret rfl rfl (b2i_01 false) qB_i
    · skip
      refine X_run 2 (i1 := 14) (L1 := [some (.inr (.inr (some 21))), some (.inl a0)]) (st1 := [.inl (1 : Int32)]) rfl ?_
      exact X_zret rfl rfl (b2i_01 true) qB_i
def f_M_isPart (s : St) (a0 : Int32) : Bool := (cond (cn2 .lt (sA s 22 (Int32.toNatClampNeg a0)) (11 : Int32)) false (cond (cn2 .ge (sA s 22 (Int32.toNatClampNeg a0)) (16 : Int32)) false true))
def w_M_isPart (s : St) (a0 : Int32) : Prop := (vp_in a0 40001 ∧ ((cn2 .lt (sA s 22 (Int32.toNatClampNeg a0)) (11 : Int32)) = true → True) ∧ ((cn2 .lt (sA s 22 (Int32.toNatClampNeg a0)) (11 : Int32)) = false → (vp_in a0 40001 ∧ True)))
theorem c_M_isPart {d : Nat} (s : St) (a0 : Int32) (hw : w_M_isPart s a0) : X m_M_isPart (d) 0 (entL 2 [.inr (.inr (some 21)), .inl a0]) [] (hp s) (qB (hp s) (f_M_isPart s a0)) := by
  unfold f_M_isPart
  unfold w_M_isPart at hw
  refine X_run 1 (i1 := 1) (L1 := [some (.inr (.inr (some 21))), some (.inl a0)]) (st1 := [.inr (.inr (some 21))]) rfl ?_
  refine X_gF (v := .inr (.inr (some 22))) rfl rfl rfl rfl ?_
  refine X_run 1 (i1 := 3) (L1 := [some (.inr (.inr (some 21))), some (.inl a0)]) (st1 := [.inl a0, .inr (.inr (some 22))]) rfl ?_
  obtain ⟨hin, hw⟩ := hw
  refine X_aI rfl rfl hin ?_
  show X _ _ 4 [some (.inr (.inr (some 21))), some (.inl a0)] [.inl (sA s 22 (Int32.toNatClampNeg a0))] (hp s) _
  refine X_run 2 (i1 := cond (cn2 .lt (sA s 22 (Int32.toNatClampNeg a0)) (11 : Int32)) 14 6) (L1 := [some (.inr (.inr (some 21))), some (.inl a0)]) (st1 := []) rfl ?_
  refine X_brq (fun hb => ?_) (fun hb => ?_)
  · skip
    refine X_run 1 (i1 := 15) (L1 := [some (.inr (.inr (some 21))), some (.inl a0)]) (st1 := [.inl (0 : Int32)]) rfl ?_
    exact X_zret rfl rfl (b2i_01 false) qB_i
  · have hw := hw.2 hb
    refine X_run 1 (i1 := 7) (L1 := [some (.inr (.inr (some 21))), some (.inl a0)]) (st1 := [.inr (.inr (some 21))]) rfl ?_
    refine X_gF (v := .inr (.inr (some 22))) rfl rfl rfl rfl ?_
    refine X_run 1 (i1 := 9) (L1 := [some (.inr (.inr (some 21))), some (.inl a0)]) (st1 := [.inl a0, .inr (.inr (some 22))]) rfl ?_
    obtain ⟨hin, hw⟩ := hw
    refine X_aI rfl rfl hin ?_
    show X _ _ 10 [some (.inr (.inr (some 21))), some (.inl a0)] [.inl (sA s 22 (Int32.toNatClampNeg a0))] (hp s) _
    refine X_run 2 (i1 := cond (cn2 .ge (sA s 22 (Int32.toNatClampNeg a0)) (16 : Int32)) 14 12) (L1 := [some (.inr (.inr (some 21))), some (.inl a0)]) (st1 := []) rfl ?_
    refine X_brq (fun hb => ?_) (fun hb => ?_)
    · skip
      refine X_run 1 (i1 := 15) (L1 := [some (.inr (.inr (some 21))), some (.inl a0)]) (st1 := [.inl (0 : Int32)]) rfl ?_
      exact X_zret rfl rfl (b2i_01 false) qB_i
    · skip
      refine X_run 2 (i1 := 15) (L1 := [some (.inr (.inr (some 21))), some (.inl a0)]) (st1 := [.inl (1 : Int32)]) rfl ?_
      exact X_zret rfl rfl (b2i_01 true) qB_i
def f_M_hasMembers (s : St) (a0 : Int32) : Bool := (cond (cn1 .le (sA s 22 (Int32.toNatClampNeg a0))) false (cond (cn2 .gt (sA s 22 (Int32.toNatClampNeg a0)) (10 : Int32)) false true))
def w_M_hasMembers (s : St) (a0 : Int32) : Prop := (vp_in a0 40001 ∧ ((cn1 .le (sA s 22 (Int32.toNatClampNeg a0))) = true → True) ∧ ((cn1 .le (sA s 22 (Int32.toNatClampNeg a0))) = false → (vp_in a0 40001 ∧ True)))
theorem c_M_hasMembers {d : Nat} (s : St) (a0 : Int32) (hw : w_M_hasMembers s a0) : X m_M_hasMembers (d) 0 (entL 2 [.inr (.inr (some 21)), .inl a0]) [] (hp s) (qB (hp s) (f_M_hasMembers s a0)) := by
  unfold f_M_hasMembers
  unfold w_M_hasMembers at hw
  refine X_run 1 (i1 := 1) (L1 := [some (.inr (.inr (some 21))), some (.inl a0)]) (st1 := [.inr (.inr (some 21))]) rfl ?_
  refine X_gF (v := .inr (.inr (some 22))) rfl rfl rfl rfl ?_
  refine X_run 1 (i1 := 3) (L1 := [some (.inr (.inr (some 21))), some (.inl a0)]) (st1 := [.inl a0, .inr (.inr (some 22))]) rfl ?_
  obtain ⟨hin, hw⟩ := hw
  refine X_aI rfl rfl hin ?_
  show X _ _ 4 [some (.inr (.inr (some 21))), some (.inl a0)] [.inl (sA s 22 (Int32.toNatClampNeg a0))] (hp s) _
  refine X_run 1 (i1 := cond (cn1 .le (sA s 22 (Int32.toNatClampNeg a0))) 13 5) (L1 := [some (.inr (.inr (some 21))), some (.inl a0)]) (st1 := []) rfl ?_
  refine X_brq (fun hb => ?_) (fun hb => ?_)
  · skip
    refine X_run 1 (i1 := 14) (L1 := [some (.inr (.inr (some 21))), some (.inl a0)]) (st1 := [.inl (0 : Int32)]) rfl ?_
    exact X_zret rfl rfl (b2i_01 false) qB_i
  · have hw := hw.2 hb
    refine X_run 1 (i1 := 6) (L1 := [some (.inr (.inr (some 21))), some (.inl a0)]) (st1 := [.inr (.inr (some 21))]) rfl ?_
    refine X_gF (v := .inr (.inr (some 22))) rfl rfl rfl rfl ?_
    refine X_run 1 (i1 := 8) (L1 := [some (.inr (.inr (some 21))), some (.inl a0)]) (st1 := [.inl a0, .inr (.inr (some 22))]) rfl ?_
    obtain ⟨hin, hw⟩ := hw
    refine X_aI rfl rfl hin ?_
    show X _ _ 9 [some (.inr (.inr (some 21))), some (.inl a0)] [.inl (sA s 22 (Int32.toNatClampNeg a0))] (hp s) _
    refine X_run 2 (i1 := cond (cn2 .gt (sA s 22 (Int32.toNatClampNeg a0)) (10 : Int32)) 13 11) (L1 := [some (.inr (.inr (some 21))), some (.inl a0)]) (st1 := []) rfl ?_
    refine X_brq (fun hb => ?_) (fun hb => ?_)
    · skip
      refine X_run 1 (i1 := 14) (L1 := [some (.inr (.inr (some 21))), some (.inl a0)]) (st1 := [.inl (0 : Int32)]) rfl ?_
      exact X_zret rfl rfl (b2i_01 false) qB_i
    · skip
      refine X_run 2 (i1 := 14) (L1 := [some (.inr (.inr (some 21))), some (.inl a0)]) (st1 := [.inl (1 : Int32)]) rfl ?_
      exact X_zret rfl rfl (b2i_01 true) qB_i
def t_M_isBelow_11 (v0 : Int32) (v1 : Int32) : Bool := (cond (cn2 .ne v1 (3 : Int32)) false (cond (cn2 .ne v0 (4 : Int32)) false true))
theorem ct_M_isBelow_11 {d : Nat} {P : AP} (v0 : Int32) (v1 : Int32) : X m_M_isBelow (d) 11 [some (.inl v0), some (.inl v1)] [] P (qB P (t_M_isBelow_11 v0 v1)) := by
  unfold t_M_isBelow_11
  refine X_run 3 (i1 := cond (cn2 .ne v1 (3 : Int32)) 19 14) (L1 := [some (.inl v0), some (.inl v1)]) (st1 := []) rfl ?_
  refine X_brq (fun hb13 => ?_) (fun hb13 => ?_)
  · refine X_run 1 (i1 := 20) (L1 := [some (.inl v0), some (.inl v1)]) (st1 := [.inl (0 : Int32)]) rfl ?_
    exact X_zret rfl rfl (b2i_01 false) ⟨rfl, rfl⟩
  · refine X_run 3 (i1 := cond (cn2 .ne v0 (4 : Int32)) 19 17) (L1 := [some (.inl v0), some (.inl v1)]) (st1 := []) rfl ?_
    refine X_brq (fun hb16 => ?_) (fun hb16 => ?_)
    · refine X_run 1 (i1 := 20) (L1 := [some (.inl v0), some (.inl v1)]) (st1 := [.inl (0 : Int32)]) rfl ?_
      exact X_zret rfl rfl (b2i_01 false) ⟨rfl, rfl⟩
    · refine X_run 2 (i1 := 20) (L1 := [some (.inl v0), some (.inl v1)]) (st1 := [.inl (1 : Int32)]) rfl ?_
      exact X_zret rfl rfl (b2i_01 true) ⟨rfl, rfl⟩
def f_M_isBelow (a0 : Int32) (a1 : Int32) : Bool := (cond (cn1 .eq a1) true (cond (cn2 .eq a0 a1) true (cond (cn2 .ne a1 (1 : Int32)) (t_M_isBelow_11 a0 a1) (cond (cn2 .eq a0 (2 : Int32)) true (t_M_isBelow_11 a0 a1)))))
theorem c_M_isBelow {d : Nat} {P : AP} (a0 : Int32) (a1 : Int32) : X m_M_isBelow (d) 0 (entL 2 [.inl a0, .inl a1]) [] P (qB P (f_M_isBelow a0 a1)) := by
  unfold f_M_isBelow
  refine X_run 2 (i1 := cond (cn1 .eq a1) 17 2) (L1 := [some (.inl a0), some (.inl a1)]) (st1 := []) rfl ?_
  refine X_brq (fun hb1 => ?_) (fun hb1 => ?_)
  · refine X_run 2 (i1 := 20) (L1 := [some (.inl a0), some (.inl a1)]) (st1 := [.inl (1 : Int32)]) rfl ?_
    exact X_zret rfl rfl (b2i_01 true) ⟨rfl, rfl⟩
  · refine X_run 3 (i1 := cond (cn2 .eq a0 a1) 17 5) (L1 := [some (.inl a0), some (.inl a1)]) (st1 := []) rfl ?_
    refine X_brq (fun hb4 => ?_) (fun hb4 => ?_)
    · refine X_run 2 (i1 := 20) (L1 := [some (.inl a0), some (.inl a1)]) (st1 := [.inl (1 : Int32)]) rfl ?_
      exact X_zret rfl rfl (b2i_01 true) ⟨rfl, rfl⟩
    · refine X_run 3 (i1 := cond (cn2 .ne a1 (1 : Int32)) 11 8) (L1 := [some (.inl a0), some (.inl a1)]) (st1 := []) rfl ?_
      refine X_brq (fun hb7 => ?_) (fun hb7 => ?_)
      · exact ct_M_isBelow_11 a0 a1
      · refine X_run 3 (i1 := cond (cn2 .eq a0 (2 : Int32)) 17 11) (L1 := [some (.inl a0), some (.inl a1)]) (st1 := []) rfl ?_
        refine X_brq (fun hb10 => ?_) (fun hb10 => ?_)
        · refine X_run 2 (i1 := 20) (L1 := [some (.inl a0), some (.inl a1)]) (st1 := [.inl (1 : Int32)]) rfl ?_
          exact X_zret rfl rfl (b2i_01 true) ⟨rfl, rfl⟩
        · exact ct_M_isBelow_11 a0 a1
def f_M_pays (s : St) (a0 : Int64) : Bool × St := (cond (cn1 .le (lg_cmp ((Int32.toInt64 (sI s 21 8)) + a0) (40000 : Int64))) (true, pI s 21 8 ((sI s 21 8) + (Int64.toInt32 a0))) (false, pI s 21 15 (1 : Int32)))
def w_M_pays (s : St) (a0 : Int64) : Prop := True
theorem c_M_pays {d : Nat} (s : St) (a0 : Int64) (hw : w_M_pays s a0) : X m_M_pays (d) 0 (entL 3 [.inr (.inr (some 21)), .inr (.inl a0)]) [] (hp s) (qBs (f_M_pays s a0)) := by
  unfold f_M_pays
  unfold w_M_pays at hw
  refine X_run 1 (i1 := 1) (L1 := [some (.inr (.inr (some 21))), some (.inr (.inl a0)), none]) (st1 := [.inr (.inr (some 21))]) rfl ?_
  refine X_gF (v := .inl (sI s 21 8)) rfl rfl rfl rfl ?_
  refine X_run 6 (i1 := cond (cn1 .le (lg_cmp ((Int32.toInt64 (sI s 21 8)) + a0) (40000 : Int64))) 13 8) (L1 := [some (.inr (.inr (some 21))), some (.inr (.inl a0)), none]) (st1 := []) rfl ?_
  refine X_brq (fun hb => ?_) (fun hb => ?_)
  · skip
    refine X_run 2 (i1 := 15) (L1 := [some (.inr (.inr (some 21))), some (.inr (.inl a0)), none]) (st1 := [.inr (.inr (some 21)), .inr (.inr (some 21))]) rfl ?_
    refine X_gF (v := .inl (sI s 21 8)) rfl rfl rfl rfl ?_
    refine X_run 3 (i1 := 19) (L1 := [some (.inr (.inr (some 21))), some (.inr (.inl a0)), none]) (st1 := [.inl ((sI s 21 8) + (Int64.toInt32 a0)), .inr (.inr (some 21))]) rfl ?_
    refine X_pI rfl rfl rfl rfl ?_
    refine X_run 1 (i1 := 21) (L1 := [some (.inr (.inr (some 21))), some (.inr (.inl a0)), none]) (st1 := [.inl (1 : Int32)]) rfl ?_
    exact X_zret rfl rfl (b2i_01 true) qBs_i
  · skip
    refine X_run 2 (i1 := 10) (L1 := [some (.inr (.inr (some 21))), some (.inr (.inl a0)), none]) (st1 := [.inl (1 : Int32), .inr (.inr (some 21))]) rfl ?_
    refine X_pI rfl rfl rfl rfl ?_
    refine X_run 1 (i1 := 12) (L1 := [some (.inr (.inr (some 21))), some (.inr (.inl a0)), none]) (st1 := [.inl (0 : Int32)]) rfl ?_
    exact X_zret rfl rfl (b2i_01 false) qBs_i
def t_M_thing_45 (s : St) (w0 : Int32) (w1 : Int32) : Int32 × St := (sI s 21 6, pI s 21 7 (w1 + w0))
def w_M_thing_45 (s : St) (w0 : Int32) (w1 : Int32) : Prop := True
theorem ct_M_thing_45 {d : Nat} (s : St) (w0 : Int32) (w1 : Int32) (hw : w_M_thing_45 s w0 w1) : X m_M_thing (d) 45 [some (.inr (.inr (some 21))), none, none, none] [.inl w0, .inl w1, .inr (.inr (some 21))] (hp s) (qIs (t_M_thing_45 s w0 w1)) := by
  unfold t_M_thing_45
  unfold w_M_thing_45 at hw
  refine X_run 1 (i1 := 46) (L1 := [some (.inr (.inr (some 21))), none, none, none]) (st1 := [.inl (w1 + w0), .inr (.inr (some 21))]) rfl ?_
  refine X_pI rfl rfl rfl rfl ?_
  refine X_run 1 (i1 := 48) (L1 := [some (.inr (.inr (some 21))), none, none, none]) (st1 := [.inr (.inr (some 21))]) rfl ?_
  refine X_gF (v := .inl (sI s 21 6)) rfl rfl rfl rfl ?_
  exact X_iret rfl rfl qIs_i
def t_M_thing_19 (s : St) (v1 : Int32) (v2 : Int32) (v3 : Int32) : Int32 × St := (cond (cn2 .lt v1 (11 : Int32)) (t_M_thing_45 (pA (pA s 24 (upd (sA s 24) (Int32.toNatClampNeg (sI s 21 6)) v2)) 25 (upd (sA s 25) (Int32.toNatClampNeg (sI s 21 6)) v3)) v2 (sI s 21 7)) (cond (cn2 .ne v1 (16 : Int32)) (t_M_thing_45 (pA (pA s 24 (upd (sA s 24) (Int32.toNatClampNeg (sI s 21 6)) v2)) 25 (upd (sA s 25) (Int32.toNatClampNeg (sI s 21 6)) v3)) (4 : Int32) (sI s 21 7)) (t_M_thing_45 (pA (pA s 24 (upd (sA s 24) (Int32.toNatClampNeg (sI s 21 6)) v2)) 25 (upd (sA s 25) (Int32.toNatClampNeg (sI s 21 6)) v3)) (1 : Int32) (sI s 21 7))))
def w_M_thing_19 (s : St) (v1 : Int32) (v2 : Int32) (v3 : Int32) : Prop := (vp_in (sI s 21 6) 40001 ∧ (vp_in (sI s 21 6) 40001 ∧ ((cn2 .lt v1 (11 : Int32)) = true → (w_M_thing_45 (pA (pA s 24 (upd (sA s 24) (Int32.toNatClampNeg (sI s 21 6)) v2)) 25 (upd (sA s 25) (Int32.toNatClampNeg (sI s 21 6)) v3)) v2 (sI s 21 7))) ∧ ((cn2 .lt v1 (11 : Int32)) = false → ((cn2 .ne v1 (16 : Int32)) = true → (w_M_thing_45 (pA (pA s 24 (upd (sA s 24) (Int32.toNatClampNeg (sI s 21 6)) v2)) 25 (upd (sA s 25) (Int32.toNatClampNeg (sI s 21 6)) v3)) (4 : Int32) (sI s 21 7))) ∧ ((cn2 .ne v1 (16 : Int32)) = false → (w_M_thing_45 (pA (pA s 24 (upd (sA s 24) (Int32.toNatClampNeg (sI s 21 6)) v2)) 25 (upd (sA s 25) (Int32.toNatClampNeg (sI s 21 6)) v3)) (1 : Int32) (sI s 21 7))))))
theorem ct_M_thing_19 {d : Nat} (s : St) (v1 : Int32) (v2 : Int32) (v3 : Int32) (hw : w_M_thing_19 s v1 v2 v3) : X m_M_thing (d) 19 [some (.inr (.inr (some 21))), some (.inl v1), some (.inl v2), some (.inl v3)] [] (hp s) (qIs (t_M_thing_19 s v1 v2 v3)) := by
  unfold t_M_thing_19
  unfold w_M_thing_19 at hw
  refine X_run 1 (i1 := 20) (L1 := [some (.inr (.inr (some 21))), some (.inl v1), some (.inl v2), some (.inl v3)]) (st1 := [.inr (.inr (some 21))]) rfl ?_
  refine X_gF (v := .inr (.inr (some 24))) rfl rfl rfl rfl ?_
  refine X_run 1 (i1 := 22) (L1 := [some (.inr (.inr (some 21))), some (.inl v1), some (.inl v2), some (.inl v3)]) (st1 := [.inr (.inr (some 21)), .inr (.inr (some 24))]) rfl ?_
  refine X_gF (v := .inl (sI s 21 6)) rfl rfl rfl rfl ?_
  refine X_run 1 (i1 := 24) (L1 := [some (.inr (.inr (some 21))), some (.inl v1), some (.inl v2), some (.inl v3)]) (st1 := [.inl v2, .inl (sI s 21 6), .inr (.inr (some 24))]) rfl ?_
  obtain ⟨hin, hw⟩ := hw
  refine X_sI rfl rfl hin ?_
  show X _ _ 25 [some (.inr (.inr (some 21))), some (.inl v1), some (.inl v2), some (.inl v3)] [] (hp (pA s 24 (upd (sA s 24) (Int32.toNatClampNeg (sI s 21 6)) v2))) _
  refine X_run 1 (i1 := 26) (L1 := [some (.inr (.inr (some 21))), some (.inl v1), some (.inl v2), some (.inl v3)]) (st1 := [.inr (.inr (some 21))]) rfl ?_
  refine X_gF (v := .inr (.inr (some 25))) rfl rfl rfl rfl ?_
  refine X_run 1 (i1 := 28) (L1 := [some (.inr (.inr (some 21))), some (.inl v1), some (.inl v2), some (.inl v3)]) (st1 := [.inr (.inr (some 21)), .inr (.inr (some 25))]) rfl ?_
  refine X_gF (v := .inl (sI s 21 6)) rfl rfl rfl rfl ?_
  refine X_run 1 (i1 := 30) (L1 := [some (.inr (.inr (some 21))), some (.inl v1), some (.inl v2), some (.inl v3)]) (st1 := [.inl v3, .inl (sI s 21 6), .inr (.inr (some 25))]) rfl ?_
  obtain ⟨hin, hw⟩ := hw
  refine X_sI rfl rfl hin ?_
  show X _ _ 31 [some (.inr (.inr (some 21))), some (.inl v1), some (.inl v2), some (.inl v3)] [] (hp (pA (pA s 24 (upd (sA s 24) (Int32.toNatClampNeg (sI s 21 6)) v2)) 25 (upd (sA s 25) (Int32.toNatClampNeg (sI s 21 6)) v3))) _
  refine X_run 2 (i1 := 33) (L1 := [some (.inr (.inr (some 21))), some (.inl v1), some (.inl v2), some (.inl v3)]) (st1 := [.inr (.inr (some 21)), .inr (.inr (some 21))]) rfl ?_
  refine X_gF (v := .inl (sI s 21 7)) rfl rfl rfl rfl ?_
  refine X_run 3 (i1 := cond (cn2 .lt v1 (11 : Int32)) 44 37) (L1 := [some (.inr (.inr (some 21))), some (.inl v1), some (.inl v2), some (.inl v3)]) (st1 := [.inl (sI s 21 7), .inr (.inr (some 21))]) rfl ?_
  refine X_brq (fun hb => ?_) (fun hb => ?_)
  · have hw := hw.1 hb
    refine X_run 1 (i1 := 45) (L1 := [some (.inr (.inr (some 21))), some (.inl v1), some (.inl v2), some (.inl v3)]) (st1 := [.inl v2, .inl (sI s 21 7), .inr (.inr (some 21))]) rfl ?_
    refine X_mask [true, false, false, false] ?_
    exact ct_M_thing_45 (pA (pA s 24 (upd (sA s 24) (Int32.toNatClampNeg (sI s 21 6)) v2)) 25 (upd (sA s 25) (Int32.toNatClampNeg (sI s 21 6)) v3)) v2 (sI s 21 7) hw
  · have hw := hw.2 hb
    refine X_run 3 (i1 := cond (cn2 .ne v1 (16 : Int32)) 42 40) (L1 := [some (.inr (.inr (some 21))), some (.inl v1), some (.inl v2), some (.inl v3)]) (st1 := [.inl (sI s 21 7), .inr (.inr (some 21))]) rfl ?_
    refine X_brq (fun hb => ?_) (fun hb => ?_)
    · have hw := hw.1 hb
      refine X_run 2 (i1 := 45) (L1 := [some (.inr (.inr (some 21))), some (.inl v1), some (.inl v2), some (.inl v3)]) (st1 := [.inl (4 : Int32), .inl (sI s 21 7), .inr (.inr (some 21))]) rfl ?_
      refine X_mask [true, false, false, false] ?_
      exact ct_M_thing_45 (pA (pA s 24 (upd (sA s 24) (Int32.toNatClampNeg (sI s 21 6)) v2)) 25 (upd (sA s 25) (Int32.toNatClampNeg (sI s 21 6)) v3)) (4 : Int32) (sI s 21 7) hw
    · have hw := hw.2 hb
      refine X_run 2 (i1 := 45) (L1 := [some (.inr (.inr (some 21))), some (.inl v1), some (.inl v2), some (.inl v3)]) (st1 := [.inl (1 : Int32), .inl (sI s 21 7), .inr (.inr (some 21))]) rfl ?_
      refine X_mask [true, false, false, false] ?_
      exact ct_M_thing_45 (pA (pA s 24 (upd (sA s 24) (Int32.toNatClampNeg (sI s 21 6)) v2)) 25 (upd (sA s 25) (Int32.toNatClampNeg (sI s 21 6)) v3)) (1 : Int32) (sI s 21 7) hw
def f_M_thing (s : St) (a0 : Int32) (a1 : Int32) (a2 : Int32) : Int32 × St := (t_M_thing_19 (pA (pA (pI s 21 6 ((sI s 21 6) + (1 : Int32))) 22 (upd (sA s 22) (Int32.toNatClampNeg ((sI s 21 6) + (1 : Int32))) a0)) 23 (upd (sA s 23) (Int32.toNatClampNeg ((sI s 21 6) + (1 : Int32))) (sI s 21 7))) a0 a1 a2)
def w_M_thing (s : St) (a0 : Int32) (a1 : Int32) (a2 : Int32) : Prop := (vp_in ((sI s 21 6) + (1 : Int32)) 40001 ∧ (vp_in ((sI s 21 6) + (1 : Int32)) 40001 ∧ (w_M_thing_19 (pA (pA (pI s 21 6 ((sI s 21 6) + (1 : Int32))) 22 (upd (sA s 22) (Int32.toNatClampNeg ((sI s 21 6) + (1 : Int32))) a0)) 23 (upd (sA s 23) (Int32.toNatClampNeg ((sI s 21 6) + (1 : Int32))) (sI s 21 7))) a0 a1 a2)))
theorem c_M_thing {d : Nat} (s : St) (a0 : Int32) (a1 : Int32) (a2 : Int32) (hw : w_M_thing s a0 a1 a2) : X m_M_thing (d) 0 (entL 4 [.inr (.inr (some 21)), .inl a0, .inl a1, .inl a2]) [] (hp s) (qIs (f_M_thing s a0 a1 a2)) := by
  unfold f_M_thing
  unfold w_M_thing at hw
  refine X_run 2 (i1 := 2) (L1 := [some (.inr (.inr (some 21))), some (.inl a0), some (.inl a1), some (.inl a2)]) (st1 := [.inr (.inr (some 21)), .inr (.inr (some 21))]) rfl ?_
  refine X_gF (v := .inl (sI s 21 6)) rfl rfl rfl rfl ?_
  refine X_run 2 (i1 := 5) (L1 := [some (.inr (.inr (some 21))), some (.inl a0), some (.inl a1), some (.inl a2)]) (st1 := [.inl ((sI s 21 6) + (1 : Int32)), .inr (.inr (some 21))]) rfl ?_
  refine X_pI rfl rfl rfl rfl ?_
  refine X_run 1 (i1 := 7) (L1 := [some (.inr (.inr (some 21))), some (.inl a0), some (.inl a1), some (.inl a2)]) (st1 := [.inr (.inr (some 21))]) rfl ?_
  refine X_gF (v := .inr (.inr (some 22))) rfl rfl rfl rfl ?_
  refine X_run 1 (i1 := 9) (L1 := [some (.inr (.inr (some 21))), some (.inl a0), some (.inl a1), some (.inl a2)]) (st1 := [.inr (.inr (some 21)), .inr (.inr (some 22))]) rfl ?_
  refine X_gF (v := .inl ((sI s 21 6) + (1 : Int32))) rfl rfl rfl rfl ?_
  refine X_run 1 (i1 := 11) (L1 := [some (.inr (.inr (some 21))), some (.inl a0), some (.inl a1), some (.inl a2)]) (st1 := [.inl a0, .inl ((sI s 21 6) + (1 : Int32)), .inr (.inr (some 22))]) rfl ?_
  obtain ⟨hin, hw⟩ := hw
  refine X_sI rfl rfl hin ?_
  show X _ _ 12 [some (.inr (.inr (some 21))), some (.inl a0), some (.inl a1), some (.inl a2)] [] (hp (pA (pI s 21 6 ((sI s 21 6) + (1 : Int32))) 22 (upd (sA s 22) (Int32.toNatClampNeg ((sI s 21 6) + (1 : Int32))) a0))) _
  refine X_run 1 (i1 := 13) (L1 := [some (.inr (.inr (some 21))), some (.inl a0), some (.inl a1), some (.inl a2)]) (st1 := [.inr (.inr (some 21))]) rfl ?_
  refine X_gF (v := .inr (.inr (some 23))) rfl rfl rfl rfl ?_
  refine X_run 1 (i1 := 15) (L1 := [some (.inr (.inr (some 21))), some (.inl a0), some (.inl a1), some (.inl a2)]) (st1 := [.inr (.inr (some 21)), .inr (.inr (some 23))]) rfl ?_
  refine X_gF (v := .inl ((sI s 21 6) + (1 : Int32))) rfl rfl rfl rfl ?_
  refine X_run 1 (i1 := 17) (L1 := [some (.inr (.inr (some 21))), some (.inl a0), some (.inl a1), some (.inl a2)]) (st1 := [.inr (.inr (some 21)), .inl ((sI s 21 6) + (1 : Int32)), .inr (.inr (some 23))]) rfl ?_
  refine X_gF (v := .inl (sI s 21 7)) rfl rfl rfl rfl ?_
  obtain ⟨hin, hw⟩ := hw
  refine X_sI rfl rfl hin ?_
  show X _ _ 19 [some (.inr (.inr (some 21))), some (.inl a0), some (.inl a1), some (.inl a2)] [] (hp (pA (pA (pI s 21 6 ((sI s 21 6) + (1 : Int32))) 22 (upd (sA s 22) (Int32.toNatClampNeg ((sI s 21 6) + (1 : Int32))) a0)) 23 (upd (sA s 23) (Int32.toNatClampNeg ((sI s 21 6) + (1 : Int32))) (sI s 21 7)))) _
  show X _ _ 19 [some (.inr (.inr (some 21))), some (.inl a0), some (.inl a1), some (.inl a2)] [] (hp (pA (pA (pI s 21 6 ((sI s 21 6) + (1 : Int32))) 22 (upd (sA s 22) (Int32.toNatClampNeg ((sI s 21 6) + (1 : Int32))) a0)) 23 (upd (sA s 23) (Int32.toNatClampNeg ((sI s 21 6) + (1 : Int32))) (sI s 21 7)))) _
  exact ct_M_thing_19 (pA (pA (pI s 21 6 ((sI s 21 6) + (1 : Int32))) 22 (upd (sA s 22) (Int32.toNatClampNeg ((sI s 21 6) + (1 : Int32))) a0)) 23 (upd (sA s 23) (Int32.toNatClampNeg ((sI s 21 6) + (1 : Int32))) (sI s 21 7))) a0 a1 a2 hw
def t_M_fault_3 (s : St) (v1 : Int32) (v2 : Int32) (w0 : Int32) : Int32 × St := (cond (cn1 .ne w0) ((1 : Int32), pI (pI s 21 9 v1) 21 10 v2) ((3 : Int32), s))
def w_M_fault_3 (s : St) (v1 : Int32) (v2 : Int32) (w0 : Int32) : Prop := True
theorem ct_M_fault_3 {d : Nat} (s : St) (v1 : Int32) (v2 : Int32) (w0 : Int32) (hw : w_M_fault_3 s v1 v2 w0) : X m_M_fault (d + 1) 3 [some (.inr (.inr (some 21))), some (.inl v1), some (.inl v2)] [.inl w0] (hp s) (qIs (t_M_fault_3 s v1 v2 w0)) := by
  unfold t_M_fault_3
  unfold w_M_fault_3 at hw
  refine X_run 1 (i1 := cond (cn1 .ne w0) 6 4) (L1 := [some (.inr (.inr (some 21))), some (.inl v1), some (.inl v2)]) (st1 := []) rfl ?_
  refine X_brq (fun hb => ?_) (fun hb => ?_)
  · skip
    refine X_run 2 (i1 := 8) (L1 := [some (.inr (.inr (some 21))), some (.inl v1), some (.inl v2)]) (st1 := [.inl v1, .inr (.inr (some 21))]) rfl ?_
    refine X_pI rfl rfl rfl rfl ?_
    refine X_run 2 (i1 := 11) (L1 := [some (.inr (.inr (some 21))), some (.inl v1), some (.inl v2)]) (st1 := [.inl v2, .inr (.inr (some 21))]) rfl ?_
    refine X_pI rfl rfl rfl rfl ?_
    refine X_run 1 (i1 := 13) (L1 := [some (.inr (.inr (some 21))), some (.inl v1), some (.inl v2)]) (st1 := [.inl (1 : Int32)]) rfl ?_
    exact X_iret rfl rfl qIs_i
  · skip
    refine X_run 1 (i1 := 5) (L1 := [some (.inr (.inr (some 21))), some (.inl v1), some (.inl v2)]) (st1 := [.inl (3 : Int32)]) rfl ?_
    exact X_iret rfl rfl qIs_i
def f_M_fault (s : St) (a0 : Int32) (a1 : Int32) : Int32 × St := (t_M_fault_3 ((f_M_pays s (8 : Int64)).2) a0 a1 (b2i (f_M_pays s (8 : Int64)).1))
def w_M_fault (s : St) (a0 : Int32) (a1 : Int32) : Prop := (w_M_pays s (8 : Int64) ∧ (w_M_fault_3 ((f_M_pays s (8 : Int64)).2) a0 a1 (b2i (f_M_pays s (8 : Int64)).1)))
theorem c_M_fault {d : Nat} (s : St) (a0 : Int32) (a1 : Int32) (hw : w_M_fault s a0 a1) : X m_M_fault (d + 1) 0 (entL 3 [.inr (.inr (some 21)), .inl a0, .inl a1]) [] (hp s) (qIs (f_M_fault s a0 a1)) := by
  unfold f_M_fault
  unfold w_M_fault at hw
  refine X_run 2 (i1 := 2) (L1 := [some (.inr (.inr (some 21))), some (.inl a0), some (.inl a1)]) (st1 := [.inr (.inl (8 : Int64)), .inr (.inr (some 21))]) rfl ?_
  obtain ⟨hc, hw⟩ := hw
  refine X_callv m_M_pays (As := [.inr (.inl (8 : Int64))]) (st := []) ok_M_pays rfl rfl rfl (hp_obj rfl) rfl (Nat.le_of_ble_eq_true rfl) (Nat.le_of_ble_eq_true rfl) (c_M_pays (d := d) s (8 : Int64) hc) ?_
  rintro _ _ ⟨rfl, rfl⟩
  show X _ _ 3 [some (.inr (.inr (some 21))), some (.inl a0), some (.inl a1)] [.inl (b2i (f_M_pays s (8 : Int64)).1)] (hp ((f_M_pays s (8 : Int64)).2)) _
  show X _ _ 3 [some (.inr (.inr (some 21))), some (.inl a0), some (.inl a1)] [.inl (b2i (f_M_pays s (8 : Int64)).1)] (hp ((f_M_pays s (8 : Int64)).2)) _
  exact ct_M_fault_3 ((f_M_pays s (8 : Int64)).2) a0 a1 (b2i (f_M_pays s (8 : Int64)).1) hw
def f_M_fails (s : St) (a0 : Int32) : Int32 × St := (f_M_fault s a0 (0 : Int32))
def w_M_fails (s : St) (a0 : Int32) : Prop := (w_M_fault s a0 (0 : Int32) ∧ True)
theorem c_M_fails {d : Nat} (s : St) (a0 : Int32) (hw : w_M_fails s a0) : X m_M_fails (d + 2) 0 (entL 2 [.inr (.inr (some 21)), .inl a0]) [] (hp s) (qIs (f_M_fails s a0)) := by
  unfold f_M_fails
  unfold w_M_fails at hw
  refine X_run 3 (i1 := 3) (L1 := [some (.inr (.inr (some 21))), some (.inl a0)]) (st1 := [.inl (0 : Int32), .inl a0, .inr (.inr (some 21))]) rfl ?_
  obtain ⟨hc, hw⟩ := hw
  refine X_callv m_M_fault (As := [.inl a0, .inl (0 : Int32)]) (st := []) ok_M_fault rfl rfl rfl (hp_obj rfl) rfl (Nat.le_of_ble_eq_true rfl) (Nat.le_of_ble_eq_true rfl) (c_M_fault (d := d) s a0 (0 : Int32) hc) ?_
  rintro _ _ ⟨rfl, rfl⟩
  show X _ _ 4 [some (.inr (.inr (some 21))), some (.inl a0)] [.inl ((f_M_fault s a0 (0 : Int32)).1)] (hp ((f_M_fault s a0 (0 : Int32)).2)) _
  exact X_iret rfl rfl qIs_p
def f_M_takes (s : St) (a0 : Int64) : Int32 × St := (cond (cn1 .ge (lg_cmp (Int32.toInt64 (sI s 21 11)) a0)) ((0 : Int32), pI s 21 11 ((sI s 21 11) - (Int64.toInt32 a0))) ((2 : Int32), pI s 21 11 (0 : Int32)))
def w_M_takes (s : St) (a0 : Int64) : Prop := True
theorem c_M_takes {d : Nat} (s : St) (a0 : Int64) (hw : w_M_takes s a0) : X m_M_takes (d) 0 (entL 3 [.inr (.inr (some 21)), .inr (.inl a0)]) [] (hp s) (qIs (f_M_takes s a0)) := by
  unfold f_M_takes
  unfold w_M_takes at hw
  refine X_run 1 (i1 := 1) (L1 := [some (.inr (.inr (some 21))), some (.inr (.inl a0)), none]) (st1 := [.inr (.inr (some 21))]) rfl ?_
  refine X_gF (v := .inl (sI s 21 11)) rfl rfl rfl rfl ?_
  refine X_run 4 (i1 := cond (cn1 .ge (lg_cmp (Int32.toInt64 (sI s 21 11)) a0)) 11 6) (L1 := [some (.inr (.inr (some 21))), some (.inr (.inl a0)), none]) (st1 := []) rfl ?_
  refine X_brq (fun hb => ?_) (fun hb => ?_)
  · skip
    refine X_run 2 (i1 := 13) (L1 := [some (.inr (.inr (some 21))), some (.inr (.inl a0)), none]) (st1 := [.inr (.inr (some 21)), .inr (.inr (some 21))]) rfl ?_
    refine X_gF (v := .inl (sI s 21 11)) rfl rfl rfl rfl ?_
    refine X_run 3 (i1 := 17) (L1 := [some (.inr (.inr (some 21))), some (.inr (.inl a0)), none]) (st1 := [.inl ((sI s 21 11) - (Int64.toInt32 a0)), .inr (.inr (some 21))]) rfl ?_
    refine X_pI rfl rfl rfl rfl ?_
    refine X_run 1 (i1 := 19) (L1 := [some (.inr (.inr (some 21))), some (.inr (.inl a0)), none]) (st1 := [.inl (0 : Int32)]) rfl ?_
    exact X_iret rfl rfl qIs_i
  · skip
    refine X_run 2 (i1 := 8) (L1 := [some (.inr (.inr (some 21))), some (.inr (.inl a0)), none]) (st1 := [.inl (0 : Int32), .inr (.inr (some 21))]) rfl ?_
    refine X_pI rfl rfl rfl rfl ?_
    refine X_run 1 (i1 := 10) (L1 := [some (.inr (.inr (some 21))), some (.inr (.inl a0)), none]) (st1 := [.inl (2 : Int32)]) rfl ?_
    exact X_iret rfl rfl qIs_i
def f_M_takesFor (s : St) (a0 : Int64) : Int32 × St := (f_M_takes s ((a0 + (7 : Int64)) / (8 : Int64)))
def w_M_takesFor (s : St) (a0 : Int64) : Prop := (w_M_takes s ((a0 + (7 : Int64)) / (8 : Int64)) ∧ True)
theorem c_M_takesFor {d : Nat} (s : St) (a0 : Int64) (hw : w_M_takesFor s a0) : X m_M_takesFor (d + 1) 0 (entL 3 [.inr (.inr (some 21)), .inr (.inl a0)]) [] (hp s) (qIs (f_M_takesFor s a0)) := by
  unfold f_M_takesFor
  unfold w_M_takesFor at hw
  refine X_run 6 (i1 := 6) (L1 := [some (.inr (.inr (some 21))), some (.inr (.inl a0)), none]) (st1 := [.inr (.inl ((a0 + (7 : Int64)) / (8 : Int64))), .inr (.inr (some 21))]) rfl ?_
  obtain ⟨hc, hw⟩ := hw
  refine X_callv m_M_takes (As := [.inr (.inl ((a0 + (7 : Int64)) / (8 : Int64)))]) (st := []) ok_M_takes rfl rfl rfl (hp_obj rfl) rfl (Nat.le_of_ble_eq_true rfl) (Nat.le_of_ble_eq_true rfl) (c_M_takes (d := d) s ((a0 + (7 : Int64)) / (8 : Int64)) hc) ?_
  rintro _ _ ⟨rfl, rfl⟩
  show X _ _ 7 [some (.inr (.inr (some 21))), some (.inr (.inl a0)), none] [.inl ((f_M_takes s ((a0 + (7 : Int64)) / (8 : Int64))).1)] (hp ((f_M_takes s ((a0 + (7 : Int64)) / (8 : Int64))).2)) _
  exact X_iret rfl rfl qIs_p
def t_M_four_2 (fu : Nat) : Nat → St → Int32 → Int32 → St
  | 0, s, _, _ => s
  | n + 1, s, v1, v2 => (cond (cn1 .lt v2) s (t_M_four_2 fu n (pI (pA s 32 (upd (sA s 32) (Int32.toNatClampNeg (sI s 21 23)) ((v1 >>> (v2 &&& 31)) &&& (255 : Int32)))) 21 23 ((sI s 21 23) + (1 : Int32))) v1 (v2 + Int32.ofInt (-8))))
def w_M_four_2 (fu : Nat) : Nat → St → Int32 → Int32 → Prop
  | 0, _, _, _ => False
  | n + 1, s, v1, v2 => ((cn1 .lt v2) = true → True) ∧ ((cn1 .lt v2) = false → (vp_in (sI s 21 23) 2000 ∧ (w_M_four_2 fu n (pI (pA s 32 (upd (sA s 32) (Int32.toNatClampNeg (sI s 21 23)) ((v1 >>> (v2 &&& 31)) &&& (255 : Int32)))) 21 23 ((sI s 21 23) + (1 : Int32))) v1 (v2 + Int32.ofInt (-8)))))
theorem ct_M_four_2 {d : Nat} (fu : Nat) : ∀ (n : Nat) (s : St) (v1 : Int32) (v2 : Int32), w_M_four_2 fu n s v1 v2 → X m_M_four (d) 2 [some (.inr (.inr (some 21))), some (.inl v1), some (.inl v2)] [] (hp s) (qVs (t_M_four_2 fu n s v1 v2))
  | 0, s, v1, v2, hw => hw.elim
  | n + 1, s, v1, v2, hw => by
    have ih := @ct_M_four_2 d fu n
    unfold t_M_four_2
    unfold w_M_four_2 at hw
    refine X_run 2 (i1 := cond (cn1 .lt v2) 22 4) (L1 := [some (.inr (.inr (some 21))), some (.inl v1), some (.inl v2)]) (st1 := []) rfl ?_
    refine X_brq (fun hb => ?_) (fun hb => ?_)
    · skip
      exact X_ret rfl rfl qVs_i
    · have hw := hw.2 hb
      refine X_run 1 (i1 := 5) (L1 := [some (.inr (.inr (some 21))), some (.inl v1), some (.inl v2)]) (st1 := [.inr (.inr (some 21))]) rfl ?_
      refine X_gF (v := .inr (.inr (some 32))) rfl rfl rfl rfl ?_
      refine X_run 1 (i1 := 7) (L1 := [some (.inr (.inr (some 21))), some (.inl v1), some (.inl v2)]) (st1 := [.inr (.inr (some 21)), .inr (.inr (some 32))]) rfl ?_
      refine X_gF (v := .inl (sI s 21 23)) rfl rfl rfl rfl ?_
      refine X_run 5 (i1 := 13) (L1 := [some (.inr (.inr (some 21))), some (.inl v1), some (.inl v2)]) (st1 := [.inl ((v1 >>> (v2 &&& 31)) &&& (255 : Int32)), .inl (sI s 21 23), .inr (.inr (some 32))]) rfl ?_
      obtain ⟨hin, hw⟩ := hw
      refine X_sI rfl rfl hin ?_
      show X _ _ 14 [some (.inr (.inr (some 21))), some (.inl v1), some (.inl v2)] [] (hp (pA s 32 (upd (sA s 32) (Int32.toNatClampNeg (sI s 21 23)) ((v1 >>> (v2 &&& 31)) &&& (255 : Int32))))) _
      refine X_run 2 (i1 := 16) (L1 := [some (.inr (.inr (some 21))), some (.inl v1), some (.inl v2)]) (st1 := [.inr (.inr (some 21)), .inr (.inr (some 21))]) rfl ?_
      refine X_gF (v := .inl (sI s 21 23)) rfl rfl rfl rfl ?_
      refine X_run 2 (i1 := 19) (L1 := [some (.inr (.inr (some 21))), some (.inl v1), some (.inl v2)]) (st1 := [.inl ((sI s 21 23) + (1 : Int32)), .inr (.inr (some 21))]) rfl ?_
      refine X_pI rfl rfl rfl rfl ?_
      refine X_run 2 (i1 := 2) (L1 := [some (.inr (.inr (some 21))), some (.inl v1), some (.inl (v2 + Int32.ofInt (-8)))]) (st1 := []) rfl ?_
      exact ih (pI (pA s 32 (upd (sA s 32) (Int32.toNatClampNeg (sI s 21 23)) ((v1 >>> (v2 &&& 31)) &&& (255 : Int32)))) 21 23 ((sI s 21 23) + (1 : Int32))) v1 (v2 + Int32.ofInt (-8)) hw
def f_M_four (fu : Nat) (s : St) (a0 : Int32) : St := (t_M_four_2 fu fu s a0 (24 : Int32))
def w_M_four (fu : Nat) (s : St) (a0 : Int32) : Prop := (w_M_four_2 fu fu s a0 (24 : Int32))
theorem c_M_four {d : Nat} (fu : Nat) (s : St) (a0 : Int32) (hw : w_M_four fu s a0) : X m_M_four (d) 0 (entL 3 [.inr (.inr (some 21)), .inl a0]) [] (hp s) (qVs (f_M_four fu s a0)) := by
  unfold f_M_four
  unfold w_M_four at hw
  refine X_run 2 (i1 := 2) (L1 := [some (.inr (.inr (some 21))), some (.inl a0), some (.inl (24 : Int32))]) (st1 := []) rfl ?_
  exact ct_M_four_2 fu fu s a0 (24 : Int32) hw
def t_M_feed_26 (fu : Nat) (s : St) : Int32 × St := (sI s 21 23, s)
def w_M_feed_26 (fu : Nat) (s : St) : Prop := True
theorem ct_M_feed_26 {d : Nat} (fu : Nat) (s : St) (hw : w_M_feed_26 fu s) : X m_M_feed (d + 1) 26 [some (.inr (.inr (some 21))), none, none, none, none, none] [] (hp s) (qIs (t_M_feed_26 fu s)) := by
  unfold t_M_feed_26
  unfold w_M_feed_26 at hw
  refine X_run 1 (i1 := 27) (L1 := [some (.inr (.inr (some 21))), none, none, none, none, none]) (st1 := [.inr (.inr (some 21))]) rfl ?_
  refine X_gF (v := .inl (sI s 21 23)) rfl rfl rfl rfl ?_
  exact X_iret rfl rfl qIs_i
def t_M_feed_23 (fu : Nat) (s : St) (v5 : Int32) : Int32 × St := (t_M_feed_26 fu (f_M_four fu s v5))
def w_M_feed_23 (fu : Nat) (s : St) (v5 : Int32) : Prop := (w_M_four fu s v5 ∧ (w_M_feed_26 fu (f_M_four fu s v5)))
theorem ct_M_feed_23 {d : Nat} (fu : Nat) (s : St) (v5 : Int32) (hw : w_M_feed_23 fu s v5) : X m_M_feed (d + 1) 23 [some (.inr (.inr (some 21))), none, none, none, none, some (.inl v5)] [] (hp s) (qIs (t_M_feed_23 fu s v5)) := by
  unfold t_M_feed_23
  unfold w_M_feed_23 at hw
  refine X_run 2 (i1 := 25) (L1 := [some (.inr (.inr (some 21))), none, none, none, none, some (.inl v5)]) (st1 := [.inl v5, .inr (.inr (some 21))]) rfl ?_
  obtain ⟨hc, hw⟩ := hw
  refine X_callv m_M_four (As := [.inl v5]) (st := []) ok_M_four rfl rfl rfl (hp_obj rfl) rfl (Nat.le_of_ble_eq_true rfl) (Nat.le_of_ble_eq_true rfl) (c_M_four (d := d) fu s v5 hc) ?_
  rintro _ _ ⟨rfl, rfl⟩
  show X _ _ 26 [some (.inr (.inr (some 21))), none, none, none, none, some (.inl v5)] [] (hp (f_M_four fu s v5)) _
  show X _ _ 26 [some (.inr (.inr (some 21))), none, none, none, none, some (.inl v5)] [] (hp (f_M_four fu s v5)) _
  refine X_mask [true, true, true, true, true, false] ?_
  exact ct_M_feed_26 fu (f_M_four fu s v5) hw
def t_M_feed_20 (fu : Nat) (s : St) (v4 : Int32) (v5 : Int32) : Int32 × St := (t_M_feed_23 fu (f_M_four fu s v4) v5)
def w_M_feed_20 (fu : Nat) (s : St) (v4 : Int32) (v5 : Int32) : Prop := (w_M_four fu s v4 ∧ (w_M_feed_23 fu (f_M_four fu s v4) v5))
theorem ct_M_feed_20 {d : Nat} (fu : Nat) (s : St) (v4 : Int32) (v5 : Int32) (hw : w_M_feed_20 fu s v4 v5) : X m_M_feed (d + 1) 20 [some (.inr (.inr (some 21))), none, none, none, some (.inl v4), some (.inl v5)] [] (hp s) (qIs (t_M_feed_20 fu s v4 v5)) := by
  unfold t_M_feed_20
  unfold w_M_feed_20 at hw
  refine X_run 2 (i1 := 22) (L1 := [some (.inr (.inr (some 21))), none, none, none, some (.inl v4), some (.inl v5)]) (st1 := [.inl v4, .inr (.inr (some 21))]) rfl ?_
  obtain ⟨hc, hw⟩ := hw
  refine X_callv m_M_four (As := [.inl v4]) (st := []) ok_M_four rfl rfl rfl (hp_obj rfl) rfl (Nat.le_of_ble_eq_true rfl) (Nat.le_of_ble_eq_true rfl) (c_M_four (d := d) fu s v4 hc) ?_
  rintro _ _ ⟨rfl, rfl⟩
  show X _ _ 23 [some (.inr (.inr (some 21))), none, none, none, some (.inl v4), some (.inl v5)] [] (hp (f_M_four fu s v4)) _
  show X _ _ 23 [some (.inr (.inr (some 21))), none, none, none, some (.inl v4), some (.inl v5)] [] (hp (f_M_four fu s v4)) _
  refine X_mask [true, true, true, true, false, true] ?_
  exact ct_M_feed_23 fu (f_M_four fu s v4) v5 hw
def t_M_feed_17 (fu : Nat) (s : St) (v3 : Int32) (v4 : Int32) (v5 : Int32) : Int32 × St := (t_M_feed_20 fu (f_M_four fu s v3) v4 v5)
def w_M_feed_17 (fu : Nat) (s : St) (v3 : Int32) (v4 : Int32) (v5 : Int32) : Prop := (w_M_four fu s v3 ∧ (w_M_feed_20 fu (f_M_four fu s v3) v4 v5))
theorem ct_M_feed_17 {d : Nat} (fu : Nat) (s : St) (v3 : Int32) (v4 : Int32) (v5 : Int32) (hw : w_M_feed_17 fu s v3 v4 v5) : X m_M_feed (d + 1) 17 [some (.inr (.inr (some 21))), none, none, some (.inl v3), some (.inl v4), some (.inl v5)] [] (hp s) (qIs (t_M_feed_17 fu s v3 v4 v5)) := by
  unfold t_M_feed_17
  unfold w_M_feed_17 at hw
  refine X_run 2 (i1 := 19) (L1 := [some (.inr (.inr (some 21))), none, none, some (.inl v3), some (.inl v4), some (.inl v5)]) (st1 := [.inl v3, .inr (.inr (some 21))]) rfl ?_
  obtain ⟨hc, hw⟩ := hw
  refine X_callv m_M_four (As := [.inl v3]) (st := []) ok_M_four rfl rfl rfl (hp_obj rfl) rfl (Nat.le_of_ble_eq_true rfl) (Nat.le_of_ble_eq_true rfl) (c_M_four (d := d) fu s v3 hc) ?_
  rintro _ _ ⟨rfl, rfl⟩
  show X _ _ 20 [some (.inr (.inr (some 21))), none, none, some (.inl v3), some (.inl v4), some (.inl v5)] [] (hp (f_M_four fu s v3)) _
  show X _ _ 20 [some (.inr (.inr (some 21))), none, none, some (.inl v3), some (.inl v4), some (.inl v5)] [] (hp (f_M_four fu s v3)) _
  refine X_mask [true, true, true, false, true, true] ?_
  exact ct_M_feed_20 fu (f_M_four fu s v3) v4 v5 hw
def t_M_feed_14 (fu : Nat) (s : St) (v2 : Int32) (v3 : Int32) (v4 : Int32) (v5 : Int32) : Int32 × St := (t_M_feed_17 fu (f_M_four fu s v2) v3 v4 v5)
def w_M_feed_14 (fu : Nat) (s : St) (v2 : Int32) (v3 : Int32) (v4 : Int32) (v5 : Int32) : Prop := (w_M_four fu s v2 ∧ (w_M_feed_17 fu (f_M_four fu s v2) v3 v4 v5))
theorem ct_M_feed_14 {d : Nat} (fu : Nat) (s : St) (v2 : Int32) (v3 : Int32) (v4 : Int32) (v5 : Int32) (hw : w_M_feed_14 fu s v2 v3 v4 v5) : X m_M_feed (d + 1) 14 [some (.inr (.inr (some 21))), none, some (.inl v2), some (.inl v3), some (.inl v4), some (.inl v5)] [] (hp s) (qIs (t_M_feed_14 fu s v2 v3 v4 v5)) := by
  unfold t_M_feed_14
  unfold w_M_feed_14 at hw
  refine X_run 2 (i1 := 16) (L1 := [some (.inr (.inr (some 21))), none, some (.inl v2), some (.inl v3), some (.inl v4), some (.inl v5)]) (st1 := [.inl v2, .inr (.inr (some 21))]) rfl ?_
  obtain ⟨hc, hw⟩ := hw
  refine X_callv m_M_four (As := [.inl v2]) (st := []) ok_M_four rfl rfl rfl (hp_obj rfl) rfl (Nat.le_of_ble_eq_true rfl) (Nat.le_of_ble_eq_true rfl) (c_M_four (d := d) fu s v2 hc) ?_
  rintro _ _ ⟨rfl, rfl⟩
  show X _ _ 17 [some (.inr (.inr (some 21))), none, some (.inl v2), some (.inl v3), some (.inl v4), some (.inl v5)] [] (hp (f_M_four fu s v2)) _
  show X _ _ 17 [some (.inr (.inr (some 21))), none, some (.inl v2), some (.inl v3), some (.inl v4), some (.inl v5)] [] (hp (f_M_four fu s v2)) _
  refine X_mask [true, true, false, true, true, true] ?_
  exact ct_M_feed_17 fu (f_M_four fu s v2) v3 v4 v5 hw
def f_M_feed (fu : Nat) (s : St) (a0 : Int32) (a1 : Int32) (a2 : Int32) (a3 : Int32) (a4 : Int32) : Int32 × St := (cond (cn2 .le ((sI s 21 23) + (20 : Int32)) (2000 : Int32)) (t_M_feed_14 fu (f_M_four fu (pI s 21 0 (0 : Int32)) a0) a1 a2 a3 a4) ((-1 : Int32), pI s 21 0 (0 : Int32)))
def w_M_feed (fu : Nat) (s : St) (a0 : Int32) (a1 : Int32) (a2 : Int32) (a3 : Int32) (a4 : Int32) : Prop := ((cn2 .le ((sI s 21 23) + (20 : Int32)) (2000 : Int32)) = true → (w_M_four fu (pI s 21 0 (0 : Int32)) a0 ∧ (w_M_feed_14 fu (f_M_four fu (pI s 21 0 (0 : Int32)) a0) a1 a2 a3 a4))) ∧ ((cn2 .le ((sI s 21 23) + (20 : Int32)) (2000 : Int32)) = false → True)
theorem c_M_feed {d : Nat} (fu : Nat) (s : St) (a0 : Int32) (a1 : Int32) (a2 : Int32) (a3 : Int32) (a4 : Int32) (hw : w_M_feed fu s a0 a1 a2 a3 a4) : X m_M_feed (d + 1) 0 (entL 6 [.inr (.inr (some 21)), .inl a0, .inl a1, .inl a2, .inl a3, .inl a4]) [] (hp s) (qIs (f_M_feed fu s a0 a1 a2 a3 a4)) := by
  unfold f_M_feed
  unfold w_M_feed at hw
  refine X_run 2 (i1 := 2) (L1 := [some (.inr (.inr (some 21))), some (.inl a0), some (.inl a1), some (.inl a2), some (.inl a3), some (.inl a4)]) (st1 := [.inl (0 : Int32), .inr (.inr (some 21))]) rfl ?_
  refine X_pI rfl rfl rfl rfl ?_
  refine X_run 1 (i1 := 4) (L1 := [some (.inr (.inr (some 21))), some (.inl a0), some (.inl a1), some (.inl a2), some (.inl a3), some (.inl a4)]) (st1 := [.inr (.inr (some 21))]) rfl ?_
  refine X_gF (v := .inl (sI s 21 23)) rfl rfl rfl rfl ?_
  refine X_run 4 (i1 := cond (cn2 .le ((sI s 21 23) + (20 : Int32)) (2000 : Int32)) 11 9) (L1 := [some (.inr (.inr (some 21))), some (.inl a0), some (.inl a1), some (.inl a2), some (.inl a3), some (.inl a4)]) (st1 := []) rfl ?_
  refine X_brq (fun hb => ?_) (fun hb => ?_)
  · have hw := hw.1 hb
    refine X_run 2 (i1 := 13) (L1 := [some (.inr (.inr (some 21))), some (.inl a0), some (.inl a1), some (.inl a2), some (.inl a3), some (.inl a4)]) (st1 := [.inl a0, .inr (.inr (some 21))]) rfl ?_
    obtain ⟨hc, hw⟩ := hw
    refine X_callv m_M_four (As := [.inl a0]) (st := []) ok_M_four rfl rfl rfl (hp_obj rfl) rfl (Nat.le_of_ble_eq_true rfl) (Nat.le_of_ble_eq_true rfl) (c_M_four (d := d) fu (pI s 21 0 (0 : Int32)) a0 hc) ?_
    rintro _ _ ⟨rfl, rfl⟩
    show X _ _ 14 [some (.inr (.inr (some 21))), some (.inl a0), some (.inl a1), some (.inl a2), some (.inl a3), some (.inl a4)] [] (hp (f_M_four fu (pI s 21 0 (0 : Int32)) a0)) _
    show X _ _ 14 [some (.inr (.inr (some 21))), some (.inl a0), some (.inl a1), some (.inl a2), some (.inl a3), some (.inl a4)] [] (hp (f_M_four fu (pI s 21 0 (0 : Int32)) a0)) _
    refine X_mask [true, false, true, true, true, true] ?_
    exact ct_M_feed_14 fu (f_M_four fu (pI s 21 0 (0 : Int32)) a0) a1 a2 a3 a4 hw
  · skip
    refine X_run 1 (i1 := 10) (L1 := [some (.inr (.inr (some 21))), some (.inl a0), some (.inl a1), some (.inl a2), some (.inl a3), some (.inl a4)]) (st1 := [.inl (-1 : Int32)]) rfl ?_
    exact X_iret rfl rfl qIs_i
def f_M_end (s : St) (a0 : Int32) : Int32 × St := (cond (cn1 .lt a0) ((-1 : Int32), pI s 21 0 (0 : Int32)) (cond (cn2 .le a0 (sI s 21 23)) (a0, pI (pI s 21 0 (0 : Int32)) 21 23 a0) ((-1 : Int32), pI s 21 0 (0 : Int32))))
def w_M_end (s : St) (a0 : Int32) : Prop := True
theorem c_M_end {d : Nat} (s : St) (a0 : Int32) (hw : w_M_end s a0) : X m_M_end (d) 0 (entL 2 [.inr (.inr (some 21)), .inl a0]) [] (hp s) (qIs (f_M_end s a0)) := by
  unfold f_M_end
  unfold w_M_end at hw
  refine X_run 2 (i1 := 2) (L1 := [some (.inr (.inr (some 21))), some (.inl a0)]) (st1 := [.inl (0 : Int32), .inr (.inr (some 21))]) rfl ?_
  refine X_pI rfl rfl rfl rfl ?_
  refine X_run 2 (i1 := cond (cn1 .lt a0) 9 5) (L1 := [some (.inr (.inr (some 21))), some (.inl a0)]) (st1 := []) rfl ?_
  refine X_brq (fun hb => ?_) (fun hb => ?_)
  · skip
    refine X_run 1 (i1 := 10) (L1 := [some (.inr (.inr (some 21))), some (.inl a0)]) (st1 := [.inl (-1 : Int32)]) rfl ?_
    exact X_iret rfl rfl qIs_i
  · skip
    refine X_run 2 (i1 := 7) (L1 := [some (.inr (.inr (some 21))), some (.inl a0)]) (st1 := [.inr (.inr (some 21)), .inl a0]) rfl ?_
    refine X_gF (v := .inl (sI s 21 23)) rfl rfl rfl rfl ?_
    refine X_run 1 (i1 := cond (cn2 .le a0 (sI s 21 23)) 11 9) (L1 := [some (.inr (.inr (some 21))), some (.inl a0)]) (st1 := []) rfl ?_
    refine X_brq (fun hb => ?_) (fun hb => ?_)
    · skip
      refine X_run 2 (i1 := 13) (L1 := [some (.inr (.inr (some 21))), some (.inl a0)]) (st1 := [.inl a0, .inr (.inr (some 21))]) rfl ?_
      refine X_pI rfl rfl rfl rfl ?_
      refine X_run 1 (i1 := 15) (L1 := [some (.inr (.inr (some 21))), some (.inl a0)]) (st1 := [.inl a0]) rfl ?_
      exact X_iret rfl rfl qIs_i
    · skip
      refine X_run 1 (i1 := 10) (L1 := [some (.inr (.inr (some 21))), some (.inl a0)]) (st1 := [.inl (-1 : Int32)]) rfl ?_
      exact X_iret rfl rfl qIs_i
def f_M_wholeOf (a0 : Int32) : Int32 := (if a0 = (1 : Int32) then (6 : Int32) else (if a0 = (2 : Int32) then (3 : Int32) else (if a0 = (3 : Int32) then (4 : Int32) else (if a0 = (4 : Int32) then (10 : Int32) else (if a0 = (5 : Int32) then (3 : Int32) else (if a0 = (6 : Int32) then (3 : Int32) else (if a0 = (7 : Int32) then (4 : Int32) else (if a0 = (8 : Int32) then (3 : Int32) else (if a0 = (9 : Int32) then (5 : Int32) else (if a0 = (10 : Int32) then (3 : Int32) else (if a0 = (11 : Int32) then (2 : Int32) else (if a0 = (12 : Int32) then (4 : Int32) else (if a0 = (13 : Int32) then (4 : Int32) else (if a0 = (14 : Int32) then (4 : Int32) else (if a0 = (15 : Int32) then (3 : Int32) else (if a0 = (16 : Int32) then (3 : Int32) else (if a0 = (17 : Int32) then (3 : Int32) else (if a0 = (18 : Int32) then (4 : Int32) else (if a0 = (19 : Int32) then (5 : Int32) else (if a0 = (20 : Int32) then (5 : Int32) else (if a0 = (21 : Int32) then (6 : Int32) else (if a0 = (22 : Int32) then (3 : Int32) else (if a0 = (23 : Int32) then (4 : Int32) else (if a0 = (24 : Int32) then (4 : Int32) else (if a0 = (25 : Int32) then (4 : Int32) else (if a0 = (26 : Int32) then (4 : Int32) else (if a0 = (27 : Int32) then (4 : Int32) else (if a0 = (28 : Int32) then (4 : Int32) else (if a0 = (29 : Int32) then (5 : Int32) else (if a0 = (30 : Int32) then (4 : Int32) else (if a0 = (31 : Int32) then (3 : Int32) else (if a0 = (32 : Int32) then (7 : Int32) else (if a0 = (33 : Int32) then (2 : Int32) else (if a0 = (34 : Int32) then (2 : Int32) else (0 : Int32)))))))))))))))))))))))))))))))))))
theorem c_M_wholeOf {d : Nat} {P : AP} (a0 : Int32) : X m_M_wholeOf (d) 0 (entL 1 [.inl a0]) [] P (qI P (f_M_wholeOf a0)) := by
  unfold f_M_wholeOf
  refine X_run 1 (i1 := 1) (L1 := [some (.inl a0)]) (st1 := [.inl a0]) rfl ?_
  refine X_itq (fun h => ?_) (fun h1_0 => ?_)
  · refine X_tsk rfl h rfl ?_
    refine X_run 1 (i1 := 11) (L1 := [some (.inl a0)]) (st1 := [.inl (6 : Int32)]) rfl ?_
    exact X_iret rfl rfl ⟨rfl, rfl⟩
  refine X_itq (fun h => ?_) (fun h1_1 => ?_)
  · refine X_tsk rfl h rfl ?_
    refine X_run 1 (i1 := 5) (L1 := [some (.inl a0)]) (st1 := [.inl (3 : Int32)]) rfl ?_
    exact X_iret rfl rfl ⟨rfl, rfl⟩
  refine X_itq (fun h => ?_) (fun h1_2 => ?_)
  · refine X_tsk rfl h rfl ?_
    refine X_run 1 (i1 := 7) (L1 := [some (.inl a0)]) (st1 := [.inl (4 : Int32)]) rfl ?_
    exact X_iret rfl rfl ⟨rfl, rfl⟩
  refine X_itq (fun h => ?_) (fun h1_3 => ?_)
  · refine X_tsk rfl h rfl ?_
    refine X_run 1 (i1 := 15) (L1 := [some (.inl a0)]) (st1 := [.inl (10 : Int32)]) rfl ?_
    exact X_iret rfl rfl ⟨rfl, rfl⟩
  refine X_itq (fun h => ?_) (fun h1_4 => ?_)
  · refine X_tsk rfl h rfl ?_
    refine X_run 1 (i1 := 5) (L1 := [some (.inl a0)]) (st1 := [.inl (3 : Int32)]) rfl ?_
    exact X_iret rfl rfl ⟨rfl, rfl⟩
  refine X_itq (fun h => ?_) (fun h1_5 => ?_)
  · refine X_tsk rfl h rfl ?_
    refine X_run 1 (i1 := 5) (L1 := [some (.inl a0)]) (st1 := [.inl (3 : Int32)]) rfl ?_
    exact X_iret rfl rfl ⟨rfl, rfl⟩
  refine X_itq (fun h => ?_) (fun h1_6 => ?_)
  · refine X_tsk rfl h rfl ?_
    refine X_run 1 (i1 := 7) (L1 := [some (.inl a0)]) (st1 := [.inl (4 : Int32)]) rfl ?_
    exact X_iret rfl rfl ⟨rfl, rfl⟩
  refine X_itq (fun h => ?_) (fun h1_7 => ?_)
  · refine X_tsk rfl h rfl ?_
    refine X_run 1 (i1 := 5) (L1 := [some (.inl a0)]) (st1 := [.inl (3 : Int32)]) rfl ?_
    exact X_iret rfl rfl ⟨rfl, rfl⟩
  refine X_itq (fun h => ?_) (fun h1_8 => ?_)
  · refine X_tsk rfl h rfl ?_
    refine X_run 1 (i1 := 9) (L1 := [some (.inl a0)]) (st1 := [.inl (5 : Int32)]) rfl ?_
    exact X_iret rfl rfl ⟨rfl, rfl⟩
  refine X_itq (fun h => ?_) (fun h1_9 => ?_)
  · refine X_tsk rfl h rfl ?_
    refine X_run 1 (i1 := 5) (L1 := [some (.inl a0)]) (st1 := [.inl (3 : Int32)]) rfl ?_
    exact X_iret rfl rfl ⟨rfl, rfl⟩
  refine X_itq (fun h => ?_) (fun h1_10 => ?_)
  · refine X_tsk rfl h rfl ?_
    refine X_run 1 (i1 := 3) (L1 := [some (.inl a0)]) (st1 := [.inl (2 : Int32)]) rfl ?_
    exact X_iret rfl rfl ⟨rfl, rfl⟩
  refine X_itq (fun h => ?_) (fun h1_11 => ?_)
  · refine X_tsk rfl h rfl ?_
    refine X_run 1 (i1 := 7) (L1 := [some (.inl a0)]) (st1 := [.inl (4 : Int32)]) rfl ?_
    exact X_iret rfl rfl ⟨rfl, rfl⟩
  refine X_itq (fun h => ?_) (fun h1_12 => ?_)
  · refine X_tsk rfl h rfl ?_
    refine X_run 1 (i1 := 7) (L1 := [some (.inl a0)]) (st1 := [.inl (4 : Int32)]) rfl ?_
    exact X_iret rfl rfl ⟨rfl, rfl⟩
  refine X_itq (fun h => ?_) (fun h1_13 => ?_)
  · refine X_tsk rfl h rfl ?_
    refine X_run 1 (i1 := 7) (L1 := [some (.inl a0)]) (st1 := [.inl (4 : Int32)]) rfl ?_
    exact X_iret rfl rfl ⟨rfl, rfl⟩
  refine X_itq (fun h => ?_) (fun h1_14 => ?_)
  · refine X_tsk rfl h rfl ?_
    refine X_run 1 (i1 := 5) (L1 := [some (.inl a0)]) (st1 := [.inl (3 : Int32)]) rfl ?_
    exact X_iret rfl rfl ⟨rfl, rfl⟩
  refine X_itq (fun h => ?_) (fun h1_15 => ?_)
  · refine X_tsk rfl h rfl ?_
    refine X_run 1 (i1 := 5) (L1 := [some (.inl a0)]) (st1 := [.inl (3 : Int32)]) rfl ?_
    exact X_iret rfl rfl ⟨rfl, rfl⟩
  refine X_itq (fun h => ?_) (fun h1_16 => ?_)
  · refine X_tsk rfl h rfl ?_
    refine X_run 1 (i1 := 5) (L1 := [some (.inl a0)]) (st1 := [.inl (3 : Int32)]) rfl ?_
    exact X_iret rfl rfl ⟨rfl, rfl⟩
  refine X_itq (fun h => ?_) (fun h1_17 => ?_)
  · refine X_tsk rfl h rfl ?_
    refine X_run 1 (i1 := 7) (L1 := [some (.inl a0)]) (st1 := [.inl (4 : Int32)]) rfl ?_
    exact X_iret rfl rfl ⟨rfl, rfl⟩
  refine X_itq (fun h => ?_) (fun h1_18 => ?_)
  · refine X_tsk rfl h rfl ?_
    refine X_run 1 (i1 := 9) (L1 := [some (.inl a0)]) (st1 := [.inl (5 : Int32)]) rfl ?_
    exact X_iret rfl rfl ⟨rfl, rfl⟩
  refine X_itq (fun h => ?_) (fun h1_19 => ?_)
  · refine X_tsk rfl h rfl ?_
    refine X_run 1 (i1 := 9) (L1 := [some (.inl a0)]) (st1 := [.inl (5 : Int32)]) rfl ?_
    exact X_iret rfl rfl ⟨rfl, rfl⟩
  refine X_itq (fun h => ?_) (fun h1_20 => ?_)
  · refine X_tsk rfl h rfl ?_
    refine X_run 1 (i1 := 11) (L1 := [some (.inl a0)]) (st1 := [.inl (6 : Int32)]) rfl ?_
    exact X_iret rfl rfl ⟨rfl, rfl⟩
  refine X_itq (fun h => ?_) (fun h1_21 => ?_)
  · refine X_tsk rfl h rfl ?_
    refine X_run 1 (i1 := 5) (L1 := [some (.inl a0)]) (st1 := [.inl (3 : Int32)]) rfl ?_
    exact X_iret rfl rfl ⟨rfl, rfl⟩
  refine X_itq (fun h => ?_) (fun h1_22 => ?_)
  · refine X_tsk rfl h rfl ?_
    refine X_run 1 (i1 := 7) (L1 := [some (.inl a0)]) (st1 := [.inl (4 : Int32)]) rfl ?_
    exact X_iret rfl rfl ⟨rfl, rfl⟩
  refine X_itq (fun h => ?_) (fun h1_23 => ?_)
  · refine X_tsk rfl h rfl ?_
    refine X_run 1 (i1 := 7) (L1 := [some (.inl a0)]) (st1 := [.inl (4 : Int32)]) rfl ?_
    exact X_iret rfl rfl ⟨rfl, rfl⟩
  refine X_itq (fun h => ?_) (fun h1_24 => ?_)
  · refine X_tsk rfl h rfl ?_
    refine X_run 1 (i1 := 7) (L1 := [some (.inl a0)]) (st1 := [.inl (4 : Int32)]) rfl ?_
    exact X_iret rfl rfl ⟨rfl, rfl⟩
  refine X_itq (fun h => ?_) (fun h1_25 => ?_)
  · refine X_tsk rfl h rfl ?_
    refine X_run 1 (i1 := 7) (L1 := [some (.inl a0)]) (st1 := [.inl (4 : Int32)]) rfl ?_
    exact X_iret rfl rfl ⟨rfl, rfl⟩
  refine X_itq (fun h => ?_) (fun h1_26 => ?_)
  · refine X_tsk rfl h rfl ?_
    refine X_run 1 (i1 := 7) (L1 := [some (.inl a0)]) (st1 := [.inl (4 : Int32)]) rfl ?_
    exact X_iret rfl rfl ⟨rfl, rfl⟩
  refine X_itq (fun h => ?_) (fun h1_27 => ?_)
  · refine X_tsk rfl h rfl ?_
    refine X_run 1 (i1 := 7) (L1 := [some (.inl a0)]) (st1 := [.inl (4 : Int32)]) rfl ?_
    exact X_iret rfl rfl ⟨rfl, rfl⟩
  refine X_itq (fun h => ?_) (fun h1_28 => ?_)
  · refine X_tsk rfl h rfl ?_
    refine X_run 1 (i1 := 9) (L1 := [some (.inl a0)]) (st1 := [.inl (5 : Int32)]) rfl ?_
    exact X_iret rfl rfl ⟨rfl, rfl⟩
  refine X_itq (fun h => ?_) (fun h1_29 => ?_)
  · refine X_tsk rfl h rfl ?_
    refine X_run 1 (i1 := 7) (L1 := [some (.inl a0)]) (st1 := [.inl (4 : Int32)]) rfl ?_
    exact X_iret rfl rfl ⟨rfl, rfl⟩
  refine X_itq (fun h => ?_) (fun h1_30 => ?_)
  · refine X_tsk rfl h rfl ?_
    refine X_run 1 (i1 := 5) (L1 := [some (.inl a0)]) (st1 := [.inl (3 : Int32)]) rfl ?_
    exact X_iret rfl rfl ⟨rfl, rfl⟩
  refine X_itq (fun h => ?_) (fun h1_31 => ?_)
  · refine X_tsk rfl h rfl ?_
    refine X_run 1 (i1 := 13) (L1 := [some (.inl a0)]) (st1 := [.inl (7 : Int32)]) rfl ?_
    exact X_iret rfl rfl ⟨rfl, rfl⟩
  refine X_itq (fun h => ?_) (fun h1_32 => ?_)
  · refine X_tsk rfl h rfl ?_
    refine X_run 1 (i1 := 3) (L1 := [some (.inl a0)]) (st1 := [.inl (2 : Int32)]) rfl ?_
    exact X_iret rfl rfl ⟨rfl, rfl⟩
  refine X_itq (fun h => ?_) (fun h1_33 => ?_)
  · refine X_tsk rfl h rfl ?_
    refine X_run 1 (i1 := 3) (L1 := [some (.inl a0)]) (st1 := [.inl (2 : Int32)]) rfl ?_
    exact X_iret rfl rfl ⟨rfl, rfl⟩
  refine X_tsd rfl ((sw_out (1) 34 (by decide) (by decide) (fun j hj => by
    match j, hj with
    | 0, _ => exact h1_0
    | 1, _ => exact h1_1
    | 2, _ => exact h1_2
    | 3, _ => exact h1_3
    | 4, _ => exact h1_4
    | 5, _ => exact h1_5
    | 6, _ => exact h1_6
    | 7, _ => exact h1_7
    | 8, _ => exact h1_8
    | 9, _ => exact h1_9
    | 10, _ => exact h1_10
    | 11, _ => exact h1_11
    | 12, _ => exact h1_12
    | 13, _ => exact h1_13
    | 14, _ => exact h1_14
    | 15, _ => exact h1_15
    | 16, _ => exact h1_16
    | 17, _ => exact h1_17
    | 18, _ => exact h1_18
    | 19, _ => exact h1_19
    | 20, _ => exact h1_20
    | 21, _ => exact h1_21
    | 22, _ => exact h1_22
    | 23, _ => exact h1_23
    | 24, _ => exact h1_24
    | 25, _ => exact h1_25
    | 26, _ => exact h1_26
    | 27, _ => exact h1_27
    | 28, _ => exact h1_28
    | 29, _ => exact h1_29
    | 30, _ => exact h1_30
    | 31, _ => exact h1_31
    | 32, _ => exact h1_32
    | 33, _ => exact h1_33
    | j + 34, hj => exact absurd hj (by omega))).imp id (fun h => by omega)) ?_
  refine X_run 1 (i1 := 17) (L1 := [some (.inl a0)]) (st1 := [.inl (0 : Int32)]) rfl ?_
  exact X_iret rfl rfl ⟨rfl, rfl⟩
def t_M_mostOf_5 (v0 : Int32) (v1 : Int32) (v2 : Int32) (w0 : Int32) : Int32 := (if v0 = (1 : Int32) then (cond (cn1 .eq w0) (255 : Int32) (7 : Int32)) else (if v0 = (2 : Int32) then (7 : Int32) else (if v0 = (3 : Int32) then (cond (cn2 .ne v1 (2 : Int32)) (7 : Int32) (6 : Int32)) else (if v0 = (4 : Int32) then (cond (cn1 .eq w0) (255 : Int32) (3 : Int32)) else (if v0 = (5 : Int32) then (cond (cn1 .eq w0) (7 : Int32) (3 : Int32)) else (if v0 = (6 : Int32) then (cond (cn1 .eq w0) (3 : Int32) (7 : Int32)) else (if v0 = (7 : Int32) then (cond (cn2 .ne v1 (2 : Int32)) (3 : Int32) (7 : Int32)) else (if v0 = (8 : Int32) then (cond (cn1 .eq w0) (9 : Int32) (3 : Int32)) else (if v0 = (9 : Int32) then (cond (cn1 .eq w0) (cond (cn2 .ne v1 (3 : Int32)) (3 : Int32) (5 : Int32)) (7 : Int32)) else (if v0 = (10 : Int32) then (15 : Int32) else (if v0 = (11 : Int32) then (15 : Int32) else (if v0 = (12 : Int32) then (cond (cn1 .eq w0) (cond (cn2 .ne v1 (1 : Int32)) (7 : Int32) (8 : Int32)) (15 : Int32)) else (if v0 = (13 : Int32) then (cond (cn1 .eq w0) (7 : Int32) (15 : Int32)) else (if v0 = (14 : Int32) then (cond (cn1 .eq w0) (cond (cn2 .ne v1 (1 : Int32)) (7 : Int32) (4 : Int32)) (15 : Int32)) else (if v0 = (15 : Int32) then (cond (cn1 .eq w0) (4 : Int32) (15 : Int32)) else (if v0 = (16 : Int32) then (cond (cn1 .eq w0) (7 : Int32) (15 : Int32)) else (if v0 = (17 : Int32) then (cond (cn1 .eq w0) (15 : Int32) (7 : Int32)) else (if v0 = (18 : Int32) then (cond (cn1 .eq w0) (cond (cn2 .ne v1 (1 : Int32)) (19 : Int32) (15 : Int32)) (7 : Int32)) else (if v0 = (19 : Int32) then (cond (cn1 .eq w0) (cond (cn2 .ne v1 (1 : Int32)) (cond (cn2 .ne v1 (2 : Int32)) (7 : Int32) (15 : Int32)) (cond (cn2 .eq v2 (6 : Int32)) (3 : Int32) (cond (cn2 .ne v2 (7 : Int32)) (7 : Int32) (3 : Int32)))) (8 : Int32)) else (if v0 = (20 : Int32) then (cond (cn1 .eq w0) (cond (cn2 .ne v1 (1 : Int32)) (cond (cn2 .ne v1 (3 : Int32)) (7 : Int32) (cond (cn2 .eq v2 (6 : Int32)) (3 : Int32) (cond (cn2 .ne v2 (7 : Int32)) (7 : Int32) (3 : Int32)))) (15 : Int32)) (8 : Int32)) else (if v0 = (21 : Int32) then (cond (cn1 .ne w0) (15 : Int32) (cond (cn2 .ne v1 (2 : Int32)) (7 : Int32) (15 : Int32))) else (if v0 = (22 : Int32) then (15 : Int32) else (if v0 = (23 : Int32) then (cond (cn2 .ne v1 (2 : Int32)) (15 : Int32) (7 : Int32)) else (if v0 = (24 : Int32) then (cond (cn2 .ne v1 (1 : Int32)) (15 : Int32) (7 : Int32)) else (if v0 = (25 : Int32) then (cond (cn2 .ne v1 (2 : Int32)) (15 : Int32) (7 : Int32)) else (if v0 = (26 : Int32) then (cond (cn2 .ne v1 (1 : Int32)) (15 : Int32) (7 : Int32)) else (if v0 = (27 : Int32) then (cond (cn1 .eq w0) (cond (cn2 .ne v1 (2 : Int32)) (cond (cn2 .ne v2 (1 : Int32)) (cond (cn2 .ne v2 (3 : Int32)) (7 : Int32) (15 : Int32)) (3 : Int32)) (15 : Int32)) (3 : Int32)) else (if v0 = (28 : Int32) then (cond (cn1 .eq w0) (cond (cn2 .ne v1 (1 : Int32)) (cond (cn2 .ne v2 (1 : Int32)) (cond (cn2 .ne v2 (3 : Int32)) (7 : Int32) (15 : Int32)) (3 : Int32)) (15 : Int32)) (3 : Int32)) else (if v0 = (29 : Int32) then (cond (cn1 .eq w0) (cond (cn2 .ne v1 (1 : Int32)) (cond (cn2 .ne v1 (2 : Int32)) (7 : Int32) (15 : Int32)) (3 : Int32)) (5 : Int32)) else (if v0 = (30 : Int32) then (cond (cn1 .eq w0) (200 : Int32) (7 : Int32)) else (if v0 = (31 : Int32) then (cond (cn1 .eq w0) (200 : Int32) (7 : Int32)) else (if v0 = (32 : Int32) then (cond (cn2 .ge v1 (3 : Int32)) (200 : Int32) (255 : Int32)) else (if v0 = (33 : Int32) then (15 : Int32) else (if v0 = (34 : Int32) then (15 : Int32) else (cond (cn2 .ge v1 (3 : Int32)) (200 : Int32) (255 : Int32))))))))))))))))))))))))))))))))))))
theorem ct_M_mostOf_5 {d : Nat} {P : AP} (v0 : Int32) (v1 : Int32) (v2 : Int32) (w0 : Int32) : X m_M_mostOf (d) 5 [some (.inl v0), some (.inl v1), some (.inl v2), none] [.inl w0] P (qI P (t_M_mostOf_5 v0 v1 v2 w0)) := by
  unfold t_M_mostOf_5
  refine X_run 2 (i1 := 7) (L1 := [some (.inl v0), some (.inl v1), some (.inl v2), some (.inl w0)]) (st1 := [.inl v0]) rfl ?_
  refine X_itq (fun h => ?_) (fun h7_0 => ?_)
  · refine X_tsk rfl h rfl ?_
    refine X_run 2 (i1 := cond (cn1 .eq w0) 12 10) (L1 := [some (.inl v0), some (.inl v1), some (.inl v2), some (.inl w0)]) (st1 := []) rfl ?_
    refine X_brq (fun hb9 => ?_) (fun hb9 => ?_)
    · refine X_run 1 (i1 := 13) (L1 := [some (.inl v0), some (.inl v1), some (.inl v2), some (.inl w0)]) (st1 := [.inl (255 : Int32)]) rfl ?_
      exact X_iret rfl rfl ⟨rfl, rfl⟩
    · refine X_run 2 (i1 := 13) (L1 := [some (.inl v0), some (.inl v1), some (.inl v2), some (.inl w0)]) (st1 := [.inl (7 : Int32)]) rfl ?_
      exact X_iret rfl rfl ⟨rfl, rfl⟩
  refine X_itq (fun h => ?_) (fun h7_1 => ?_)
  · refine X_tsk rfl h rfl ?_
    refine X_run 1 (i1 := 15) (L1 := [some (.inl v0), some (.inl v1), some (.inl v2), some (.inl w0)]) (st1 := [.inl (7 : Int32)]) rfl ?_
    exact X_iret rfl rfl ⟨rfl, rfl⟩
  refine X_itq (fun h => ?_) (fun h7_2 => ?_)
  · refine X_tsk rfl h rfl ?_
    refine X_run 3 (i1 := cond (cn2 .ne v1 (2 : Int32)) 21 19) (L1 := [some (.inl v0), some (.inl v1), some (.inl v2), some (.inl w0)]) (st1 := []) rfl ?_
    refine X_brq (fun hb18 => ?_) (fun hb18 => ?_)
    · refine X_run 1 (i1 := 22) (L1 := [some (.inl v0), some (.inl v1), some (.inl v2), some (.inl w0)]) (st1 := [.inl (7 : Int32)]) rfl ?_
      exact X_iret rfl rfl ⟨rfl, rfl⟩
    · refine X_run 2 (i1 := 22) (L1 := [some (.inl v0), some (.inl v1), some (.inl v2), some (.inl w0)]) (st1 := [.inl (6 : Int32)]) rfl ?_
      exact X_iret rfl rfl ⟨rfl, rfl⟩
  refine X_itq (fun h => ?_) (fun h7_3 => ?_)
  · refine X_tsk rfl h rfl ?_
    refine X_run 2 (i1 := cond (cn1 .eq w0) 27 25) (L1 := [some (.inl v0), some (.inl v1), some (.inl v2), some (.inl w0)]) (st1 := []) rfl ?_
    refine X_brq (fun hb24 => ?_) (fun hb24 => ?_)
    · refine X_run 1 (i1 := 28) (L1 := [some (.inl v0), some (.inl v1), some (.inl v2), some (.inl w0)]) (st1 := [.inl (255 : Int32)]) rfl ?_
      exact X_iret rfl rfl ⟨rfl, rfl⟩
    · refine X_run 2 (i1 := 28) (L1 := [some (.inl v0), some (.inl v1), some (.inl v2), some (.inl w0)]) (st1 := [.inl (3 : Int32)]) rfl ?_
      exact X_iret rfl rfl ⟨rfl, rfl⟩
  refine X_itq (fun h => ?_) (fun h7_4 => ?_)
  · refine X_tsk rfl h rfl ?_
    refine X_run 2 (i1 := cond (cn1 .eq w0) 33 31) (L1 := [some (.inl v0), some (.inl v1), some (.inl v2), some (.inl w0)]) (st1 := []) rfl ?_
    refine X_brq (fun hb30 => ?_) (fun hb30 => ?_)
    · refine X_run 1 (i1 := 34) (L1 := [some (.inl v0), some (.inl v1), some (.inl v2), some (.inl w0)]) (st1 := [.inl (7 : Int32)]) rfl ?_
      exact X_iret rfl rfl ⟨rfl, rfl⟩
    · refine X_run 2 (i1 := 34) (L1 := [some (.inl v0), some (.inl v1), some (.inl v2), some (.inl w0)]) (st1 := [.inl (3 : Int32)]) rfl ?_
      exact X_iret rfl rfl ⟨rfl, rfl⟩
  refine X_itq (fun h => ?_) (fun h7_5 => ?_)
  · refine X_tsk rfl h rfl ?_
    refine X_run 2 (i1 := cond (cn1 .eq w0) 39 37) (L1 := [some (.inl v0), some (.inl v1), some (.inl v2), some (.inl w0)]) (st1 := []) rfl ?_
    refine X_brq (fun hb36 => ?_) (fun hb36 => ?_)
    · refine X_run 1 (i1 := 40) (L1 := [some (.inl v0), some (.inl v1), some (.inl v2), some (.inl w0)]) (st1 := [.inl (3 : Int32)]) rfl ?_
      exact X_iret rfl rfl ⟨rfl, rfl⟩
    · refine X_run 2 (i1 := 40) (L1 := [some (.inl v0), some (.inl v1), some (.inl v2), some (.inl w0)]) (st1 := [.inl (7 : Int32)]) rfl ?_
      exact X_iret rfl rfl ⟨rfl, rfl⟩
  refine X_itq (fun h => ?_) (fun h7_6 => ?_)
  · refine X_tsk rfl h rfl ?_
    refine X_run 3 (i1 := cond (cn2 .ne v1 (2 : Int32)) 46 44) (L1 := [some (.inl v0), some (.inl v1), some (.inl v2), some (.inl w0)]) (st1 := []) rfl ?_
    refine X_brq (fun hb43 => ?_) (fun hb43 => ?_)
    · refine X_run 1 (i1 := 47) (L1 := [some (.inl v0), some (.inl v1), some (.inl v2), some (.inl w0)]) (st1 := [.inl (3 : Int32)]) rfl ?_
      exact X_iret rfl rfl ⟨rfl, rfl⟩
    · refine X_run 2 (i1 := 47) (L1 := [some (.inl v0), some (.inl v1), some (.inl v2), some (.inl w0)]) (st1 := [.inl (7 : Int32)]) rfl ?_
      exact X_iret rfl rfl ⟨rfl, rfl⟩
  refine X_itq (fun h => ?_) (fun h7_7 => ?_)
  · refine X_tsk rfl h rfl ?_
    refine X_run 2 (i1 := cond (cn1 .eq w0) 52 50) (L1 := [some (.inl v0), some (.inl v1), some (.inl v2), some (.inl w0)]) (st1 := []) rfl ?_
    refine X_brq (fun hb49 => ?_) (fun hb49 => ?_)
    · refine X_run 1 (i1 := 53) (L1 := [some (.inl v0), some (.inl v1), some (.inl v2), some (.inl w0)]) (st1 := [.inl (9 : Int32)]) rfl ?_
      exact X_iret rfl rfl ⟨rfl, rfl⟩
    · refine X_run 2 (i1 := 53) (L1 := [some (.inl v0), some (.inl v1), some (.inl v2), some (.inl w0)]) (st1 := [.inl (3 : Int32)]) rfl ?_
      exact X_iret rfl rfl ⟨rfl, rfl⟩
  refine X_itq (fun h => ?_) (fun h7_8 => ?_)
  · refine X_tsk rfl h rfl ?_
    refine X_run 2 (i1 := cond (cn1 .eq w0) 58 56) (L1 := [some (.inl v0), some (.inl v1), some (.inl v2), some (.inl w0)]) (st1 := []) rfl ?_
    refine X_brq (fun hb55 => ?_) (fun hb55 => ?_)
    · refine X_run 3 (i1 := cond (cn2 .ne v1 (3 : Int32)) 63 61) (L1 := [some (.inl v0), some (.inl v1), some (.inl v2), some (.inl w0)]) (st1 := []) rfl ?_
      refine X_brq (fun hb60 => ?_) (fun hb60 => ?_)
      · refine X_run 1 (i1 := 64) (L1 := [some (.inl v0), some (.inl v1), some (.inl v2), some (.inl w0)]) (st1 := [.inl (3 : Int32)]) rfl ?_
        exact X_iret rfl rfl ⟨rfl, rfl⟩
      · refine X_run 2 (i1 := 64) (L1 := [some (.inl v0), some (.inl v1), some (.inl v2), some (.inl w0)]) (st1 := [.inl (5 : Int32)]) rfl ?_
        exact X_iret rfl rfl ⟨rfl, rfl⟩
    · refine X_run 2 (i1 := 64) (L1 := [some (.inl v0), some (.inl v1), some (.inl v2), some (.inl w0)]) (st1 := [.inl (7 : Int32)]) rfl ?_
      exact X_iret rfl rfl ⟨rfl, rfl⟩
  refine X_itq (fun h => ?_) (fun h7_9 => ?_)
  · refine X_tsk rfl h rfl ?_
    refine X_run 1 (i1 := 66) (L1 := [some (.inl v0), some (.inl v1), some (.inl v2), some (.inl w0)]) (st1 := [.inl (15 : Int32)]) rfl ?_
    exact X_iret rfl rfl ⟨rfl, rfl⟩
  refine X_itq (fun h => ?_) (fun h7_10 => ?_)
  · refine X_tsk rfl h rfl ?_
    refine X_run 1 (i1 := 66) (L1 := [some (.inl v0), some (.inl v1), some (.inl v2), some (.inl w0)]) (st1 := [.inl (15 : Int32)]) rfl ?_
    exact X_iret rfl rfl ⟨rfl, rfl⟩
  refine X_itq (fun h => ?_) (fun h7_11 => ?_)
  · refine X_tsk rfl h rfl ?_
    refine X_run 2 (i1 := cond (cn1 .eq w0) 71 69) (L1 := [some (.inl v0), some (.inl v1), some (.inl v2), some (.inl w0)]) (st1 := []) rfl ?_
    refine X_brq (fun hb68 => ?_) (fun hb68 => ?_)
    · refine X_run 3 (i1 := cond (cn2 .ne v1 (1 : Int32)) 76 74) (L1 := [some (.inl v0), some (.inl v1), some (.inl v2), some (.inl w0)]) (st1 := []) rfl ?_
      refine X_brq (fun hb73 => ?_) (fun hb73 => ?_)
      · refine X_run 1 (i1 := 77) (L1 := [some (.inl v0), some (.inl v1), some (.inl v2), some (.inl w0)]) (st1 := [.inl (7 : Int32)]) rfl ?_
        exact X_iret rfl rfl ⟨rfl, rfl⟩
      · refine X_run 2 (i1 := 77) (L1 := [some (.inl v0), some (.inl v1), some (.inl v2), some (.inl w0)]) (st1 := [.inl (8 : Int32)]) rfl ?_
        exact X_iret rfl rfl ⟨rfl, rfl⟩
    · refine X_run 2 (i1 := 77) (L1 := [some (.inl v0), some (.inl v1), some (.inl v2), some (.inl w0)]) (st1 := [.inl (15 : Int32)]) rfl ?_
      exact X_iret rfl rfl ⟨rfl, rfl⟩
  refine X_itq (fun h => ?_) (fun h7_12 => ?_)
  · refine X_tsk rfl h rfl ?_
    refine X_run 2 (i1 := cond (cn1 .eq w0) 82 80) (L1 := [some (.inl v0), some (.inl v1), some (.inl v2), some (.inl w0)]) (st1 := []) rfl ?_
    refine X_brq (fun hb79 => ?_) (fun hb79 => ?_)
    · refine X_run 1 (i1 := 83) (L1 := [some (.inl v0), some (.inl v1), some (.inl v2), some (.inl w0)]) (st1 := [.inl (7 : Int32)]) rfl ?_
      exact X_iret rfl rfl ⟨rfl, rfl⟩
    · refine X_run 2 (i1 := 83) (L1 := [some (.inl v0), some (.inl v1), some (.inl v2), some (.inl w0)]) (st1 := [.inl (15 : Int32)]) rfl ?_
      exact X_iret rfl rfl ⟨rfl, rfl⟩
  refine X_itq (fun h => ?_) (fun h7_13 => ?_)
  · refine X_tsk rfl h rfl ?_
    refine X_run 2 (i1 := cond (cn1 .eq w0) 88 86) (L1 := [some (.inl v0), some (.inl v1), some (.inl v2), some (.inl w0)]) (st1 := []) rfl ?_
    refine X_brq (fun hb85 => ?_) (fun hb85 => ?_)
    · refine X_run 3 (i1 := cond (cn2 .ne v1 (1 : Int32)) 93 91) (L1 := [some (.inl v0), some (.inl v1), some (.inl v2), some (.inl w0)]) (st1 := []) rfl ?_
      refine X_brq (fun hb90 => ?_) (fun hb90 => ?_)
      · refine X_run 1 (i1 := 94) (L1 := [some (.inl v0), some (.inl v1), some (.inl v2), some (.inl w0)]) (st1 := [.inl (7 : Int32)]) rfl ?_
        exact X_iret rfl rfl ⟨rfl, rfl⟩
      · refine X_run 2 (i1 := 94) (L1 := [some (.inl v0), some (.inl v1), some (.inl v2), some (.inl w0)]) (st1 := [.inl (4 : Int32)]) rfl ?_
        exact X_iret rfl rfl ⟨rfl, rfl⟩
    · refine X_run 2 (i1 := 94) (L1 := [some (.inl v0), some (.inl v1), some (.inl v2), some (.inl w0)]) (st1 := [.inl (15 : Int32)]) rfl ?_
      exact X_iret rfl rfl ⟨rfl, rfl⟩
  refine X_itq (fun h => ?_) (fun h7_14 => ?_)
  · refine X_tsk rfl h rfl ?_
    refine X_run 2 (i1 := cond (cn1 .eq w0) 99 97) (L1 := [some (.inl v0), some (.inl v1), some (.inl v2), some (.inl w0)]) (st1 := []) rfl ?_
    refine X_brq (fun hb96 => ?_) (fun hb96 => ?_)
    · refine X_run 1 (i1 := 100) (L1 := [some (.inl v0), some (.inl v1), some (.inl v2), some (.inl w0)]) (st1 := [.inl (4 : Int32)]) rfl ?_
      exact X_iret rfl rfl ⟨rfl, rfl⟩
    · refine X_run 2 (i1 := 100) (L1 := [some (.inl v0), some (.inl v1), some (.inl v2), some (.inl w0)]) (st1 := [.inl (15 : Int32)]) rfl ?_
      exact X_iret rfl rfl ⟨rfl, rfl⟩
  refine X_itq (fun h => ?_) (fun h7_15 => ?_)
  · refine X_tsk rfl h rfl ?_
    refine X_run 2 (i1 := cond (cn1 .eq w0) 82 80) (L1 := [some (.inl v0), some (.inl v1), some (.inl v2), some (.inl w0)]) (st1 := []) rfl ?_
    refine X_brq (fun hb79 => ?_) (fun hb79 => ?_)
    · refine X_run 1 (i1 := 83) (L1 := [some (.inl v0), some (.inl v1), some (.inl v2), some (.inl w0)]) (st1 := [.inl (7 : Int32)]) rfl ?_
      exact X_iret rfl rfl ⟨rfl, rfl⟩
    · refine X_run 2 (i1 := 83) (L1 := [some (.inl v0), some (.inl v1), some (.inl v2), some (.inl w0)]) (st1 := [.inl (15 : Int32)]) rfl ?_
      exact X_iret rfl rfl ⟨rfl, rfl⟩
  refine X_itq (fun h => ?_) (fun h7_16 => ?_)
  · refine X_tsk rfl h rfl ?_
    refine X_run 2 (i1 := cond (cn1 .eq w0) 105 103) (L1 := [some (.inl v0), some (.inl v1), some (.inl v2), some (.inl w0)]) (st1 := []) rfl ?_
    refine X_brq (fun hb102 => ?_) (fun hb102 => ?_)
    · refine X_run 1 (i1 := 106) (L1 := [some (.inl v0), some (.inl v1), some (.inl v2), some (.inl w0)]) (st1 := [.inl (15 : Int32)]) rfl ?_
      exact X_iret rfl rfl ⟨rfl, rfl⟩
    · refine X_run 2 (i1 := 106) (L1 := [some (.inl v0), some (.inl v1), some (.inl v2), some (.inl w0)]) (st1 := [.inl (7 : Int32)]) rfl ?_
      exact X_iret rfl rfl ⟨rfl, rfl⟩
  refine X_itq (fun h => ?_) (fun h7_17 => ?_)
  · refine X_tsk rfl h rfl ?_
    refine X_run 2 (i1 := cond (cn1 .eq w0) 111 109) (L1 := [some (.inl v0), some (.inl v1), some (.inl v2), some (.inl w0)]) (st1 := []) rfl ?_
    refine X_brq (fun hb108 => ?_) (fun hb108 => ?_)
    · refine X_run 3 (i1 := cond (cn2 .ne v1 (1 : Int32)) 116 114) (L1 := [some (.inl v0), some (.inl v1), some (.inl v2), some (.inl w0)]) (st1 := []) rfl ?_
      refine X_brq (fun hb113 => ?_) (fun hb113 => ?_)
      · refine X_run 1 (i1 := 117) (L1 := [some (.inl v0), some (.inl v1), some (.inl v2), some (.inl w0)]) (st1 := [.inl (19 : Int32)]) rfl ?_
        exact X_iret rfl rfl ⟨rfl, rfl⟩
      · refine X_run 2 (i1 := 117) (L1 := [some (.inl v0), some (.inl v1), some (.inl v2), some (.inl w0)]) (st1 := [.inl (15 : Int32)]) rfl ?_
        exact X_iret rfl rfl ⟨rfl, rfl⟩
    · refine X_run 2 (i1 := 117) (L1 := [some (.inl v0), some (.inl v1), some (.inl v2), some (.inl w0)]) (st1 := [.inl (7 : Int32)]) rfl ?_
      exact X_iret rfl rfl ⟨rfl, rfl⟩
  refine X_itq (fun h => ?_) (fun h7_18 => ?_)
  · refine X_tsk rfl h rfl ?_
    refine X_run 2 (i1 := cond (cn1 .eq w0) 122 120) (L1 := [some (.inl v0), some (.inl v1), some (.inl v2), some (.inl w0)]) (st1 := []) rfl ?_
    refine X_brq (fun hb119 => ?_) (fun hb119 => ?_)
    · refine X_run 3 (i1 := cond (cn2 .ne v1 (1 : Int32)) 135 125) (L1 := [some (.inl v0), some (.inl v1), some (.inl v2), some (.inl w0)]) (st1 := []) rfl ?_
      refine X_brq (fun hb124 => ?_) (fun hb124 => ?_)
      · refine X_run 3 (i1 := cond (cn2 .ne v1 (2 : Int32)) 140 138) (L1 := [some (.inl v0), some (.inl v1), some (.inl v2), some (.inl w0)]) (st1 := []) rfl ?_
        refine X_brq (fun hb137 => ?_) (fun hb137 => ?_)
        · refine X_run 1 (i1 := 141) (L1 := [some (.inl v0), some (.inl v1), some (.inl v2), some (.inl w0)]) (st1 := [.inl (7 : Int32)]) rfl ?_
          exact X_iret rfl rfl ⟨rfl, rfl⟩
        · refine X_run 2 (i1 := 141) (L1 := [some (.inl v0), some (.inl v1), some (.inl v2), some (.inl w0)]) (st1 := [.inl (15 : Int32)]) rfl ?_
          exact X_iret rfl rfl ⟨rfl, rfl⟩
      · refine X_run 3 (i1 := cond (cn2 .eq v2 (6 : Int32)) 131 128) (L1 := [some (.inl v0), some (.inl v1), some (.inl v2), some (.inl w0)]) (st1 := []) rfl ?_
        refine X_brq (fun hb127 => ?_) (fun hb127 => ?_)
        · refine X_run 2 (i1 := 141) (L1 := [some (.inl v0), some (.inl v1), some (.inl v2), some (.inl w0)]) (st1 := [.inl (3 : Int32)]) rfl ?_
          exact X_iret rfl rfl ⟨rfl, rfl⟩
        · refine X_run 3 (i1 := cond (cn2 .ne v2 (7 : Int32)) 133 131) (L1 := [some (.inl v0), some (.inl v1), some (.inl v2), some (.inl w0)]) (st1 := []) rfl ?_
          refine X_brq (fun hb130 => ?_) (fun hb130 => ?_)
          · refine X_run 2 (i1 := 141) (L1 := [some (.inl v0), some (.inl v1), some (.inl v2), some (.inl w0)]) (st1 := [.inl (7 : Int32)]) rfl ?_
            exact X_iret rfl rfl ⟨rfl, rfl⟩
          · refine X_run 2 (i1 := 141) (L1 := [some (.inl v0), some (.inl v1), some (.inl v2), some (.inl w0)]) (st1 := [.inl (3 : Int32)]) rfl ?_
            exact X_iret rfl rfl ⟨rfl, rfl⟩
    · refine X_run 2 (i1 := 141) (L1 := [some (.inl v0), some (.inl v1), some (.inl v2), some (.inl w0)]) (st1 := [.inl (8 : Int32)]) rfl ?_
      exact X_iret rfl rfl ⟨rfl, rfl⟩
  refine X_itq (fun h => ?_) (fun h7_19 => ?_)
  · refine X_tsk rfl h rfl ?_
    refine X_run 2 (i1 := cond (cn1 .eq w0) 146 144) (L1 := [some (.inl v0), some (.inl v1), some (.inl v2), some (.inl w0)]) (st1 := []) rfl ?_
    refine X_brq (fun hb143 => ?_) (fun hb143 => ?_)
    · refine X_run 3 (i1 := cond (cn2 .ne v1 (1 : Int32)) 151 149) (L1 := [some (.inl v0), some (.inl v1), some (.inl v2), some (.inl w0)]) (st1 := []) rfl ?_
      refine X_brq (fun hb148 => ?_) (fun hb148 => ?_)
      · refine X_run 3 (i1 := cond (cn2 .ne v1 (3 : Int32)) 162 154) (L1 := [some (.inl v0), some (.inl v1), some (.inl v2), some (.inl w0)]) (st1 := []) rfl ?_
        refine X_brq (fun hb153 => ?_) (fun hb153 => ?_)
        · refine X_run 1 (i1 := 163) (L1 := [some (.inl v0), some (.inl v1), some (.inl v2), some (.inl w0)]) (st1 := [.inl (7 : Int32)]) rfl ?_
          exact X_iret rfl rfl ⟨rfl, rfl⟩
        · refine X_run 3 (i1 := cond (cn2 .eq v2 (6 : Int32)) 160 157) (L1 := [some (.inl v0), some (.inl v1), some (.inl v2), some (.inl w0)]) (st1 := []) rfl ?_
          refine X_brq (fun hb156 => ?_) (fun hb156 => ?_)
          · refine X_run 2 (i1 := 163) (L1 := [some (.inl v0), some (.inl v1), some (.inl v2), some (.inl w0)]) (st1 := [.inl (3 : Int32)]) rfl ?_
            exact X_iret rfl rfl ⟨rfl, rfl⟩
          · refine X_run 3 (i1 := cond (cn2 .ne v2 (7 : Int32)) 162 160) (L1 := [some (.inl v0), some (.inl v1), some (.inl v2), some (.inl w0)]) (st1 := []) rfl ?_
            refine X_brq (fun hb159 => ?_) (fun hb159 => ?_)
            · refine X_run 1 (i1 := 163) (L1 := [some (.inl v0), some (.inl v1), some (.inl v2), some (.inl w0)]) (st1 := [.inl (7 : Int32)]) rfl ?_
              exact X_iret rfl rfl ⟨rfl, rfl⟩
            · refine X_run 2 (i1 := 163) (L1 := [some (.inl v0), some (.inl v1), some (.inl v2), some (.inl w0)]) (st1 := [.inl (3 : Int32)]) rfl ?_
              exact X_iret rfl rfl ⟨rfl, rfl⟩
      · refine X_run 2 (i1 := 163) (L1 := [some (.inl v0), some (.inl v1), some (.inl v2), some (.inl w0)]) (st1 := [.inl (15 : Int32)]) rfl ?_
        exact X_iret rfl rfl ⟨rfl, rfl⟩
    · refine X_run 2 (i1 := 163) (L1 := [some (.inl v0), some (.inl v1), some (.inl v2), some (.inl w0)]) (st1 := [.inl (8 : Int32)]) rfl ?_
      exact X_iret rfl rfl ⟨rfl, rfl⟩
  refine X_itq (fun h => ?_) (fun h7_20 => ?_)
  · refine X_tsk rfl h rfl ?_
    refine X_run 2 (i1 := cond (cn1 .ne w0) 169 166) (L1 := [some (.inl v0), some (.inl v1), some (.inl v2), some (.inl w0)]) (st1 := []) rfl ?_
    refine X_brq (fun hb165 => ?_) (fun hb165 => ?_)
    · refine X_run 2 (i1 := 172) (L1 := [some (.inl v0), some (.inl v1), some (.inl v2), some (.inl w0)]) (st1 := [.inl (15 : Int32)]) rfl ?_
      exact X_iret rfl rfl ⟨rfl, rfl⟩
    · refine X_run 3 (i1 := cond (cn2 .ne v1 (2 : Int32)) 171 169) (L1 := [some (.inl v0), some (.inl v1), some (.inl v2), some (.inl w0)]) (st1 := []) rfl ?_
      refine X_brq (fun hb168 => ?_) (fun hb168 => ?_)
      · refine X_run 1 (i1 := 172) (L1 := [some (.inl v0), some (.inl v1), some (.inl v2), some (.inl w0)]) (st1 := [.inl (7 : Int32)]) rfl ?_
        exact X_iret rfl rfl ⟨rfl, rfl⟩
      · refine X_run 2 (i1 := 172) (L1 := [some (.inl v0), some (.inl v1), some (.inl v2), some (.inl w0)]) (st1 := [.inl (15 : Int32)]) rfl ?_
        exact X_iret rfl rfl ⟨rfl, rfl⟩
  refine X_itq (fun h => ?_) (fun h7_21 => ?_)
  · refine X_tsk rfl h rfl ?_
    refine X_run 1 (i1 := 66) (L1 := [some (.inl v0), some (.inl v1), some (.inl v2), some (.inl w0)]) (st1 := [.inl (15 : Int32)]) rfl ?_
    exact X_iret rfl rfl ⟨rfl, rfl⟩
  refine X_itq (fun h => ?_) (fun h7_22 => ?_)
  · refine X_tsk rfl h rfl ?_
    refine X_run 3 (i1 := cond (cn2 .ne v1 (2 : Int32)) 178 176) (L1 := [some (.inl v0), some (.inl v1), some (.inl v2), some (.inl w0)]) (st1 := []) rfl ?_
    refine X_brq (fun hb175 => ?_) (fun hb175 => ?_)
    · refine X_run 1 (i1 := 179) (L1 := [some (.inl v0), some (.inl v1), some (.inl v2), some (.inl w0)]) (st1 := [.inl (15 : Int32)]) rfl ?_
      exact X_iret rfl rfl ⟨rfl, rfl⟩
    · refine X_run 2 (i1 := 179) (L1 := [some (.inl v0), some (.inl v1), some (.inl v2), some (.inl w0)]) (st1 := [.inl (7 : Int32)]) rfl ?_
      exact X_iret rfl rfl ⟨rfl, rfl⟩
  refine X_itq (fun h => ?_) (fun h7_23 => ?_)
  · refine X_tsk rfl h rfl ?_
    refine X_run 3 (i1 := cond (cn2 .ne v1 (1 : Int32)) 185 183) (L1 := [some (.inl v0), some (.inl v1), some (.inl v2), some (.inl w0)]) (st1 := []) rfl ?_
    refine X_brq (fun hb182 => ?_) (fun hb182 => ?_)
    · refine X_run 1 (i1 := 186) (L1 := [some (.inl v0), some (.inl v1), some (.inl v2), some (.inl w0)]) (st1 := [.inl (15 : Int32)]) rfl ?_
      exact X_iret rfl rfl ⟨rfl, rfl⟩
    · refine X_run 2 (i1 := 186) (L1 := [some (.inl v0), some (.inl v1), some (.inl v2), some (.inl w0)]) (st1 := [.inl (7 : Int32)]) rfl ?_
      exact X_iret rfl rfl ⟨rfl, rfl⟩
  refine X_itq (fun h => ?_) (fun h7_24 => ?_)
  · refine X_tsk rfl h rfl ?_
    refine X_run 3 (i1 := cond (cn2 .ne v1 (2 : Int32)) 178 176) (L1 := [some (.inl v0), some (.inl v1), some (.inl v2), some (.inl w0)]) (st1 := []) rfl ?_
    refine X_brq (fun hb175 => ?_) (fun hb175 => ?_)
    · refine X_run 1 (i1 := 179) (L1 := [some (.inl v0), some (.inl v1), some (.inl v2), some (.inl w0)]) (st1 := [.inl (15 : Int32)]) rfl ?_
      exact X_iret rfl rfl ⟨rfl, rfl⟩
    · refine X_run 2 (i1 := 179) (L1 := [some (.inl v0), some (.inl v1), some (.inl v2), some (.inl w0)]) (st1 := [.inl (7 : Int32)]) rfl ?_
      exact X_iret rfl rfl ⟨rfl, rfl⟩
  refine X_itq (fun h => ?_) (fun h7_25 => ?_)
  · refine X_tsk rfl h rfl ?_
    refine X_run 3 (i1 := cond (cn2 .ne v1 (1 : Int32)) 185 183) (L1 := [some (.inl v0), some (.inl v1), some (.inl v2), some (.inl w0)]) (st1 := []) rfl ?_
    refine X_brq (fun hb182 => ?_) (fun hb182 => ?_)
    · refine X_run 1 (i1 := 186) (L1 := [some (.inl v0), some (.inl v1), some (.inl v2), some (.inl w0)]) (st1 := [.inl (15 : Int32)]) rfl ?_
      exact X_iret rfl rfl ⟨rfl, rfl⟩
    · refine X_run 2 (i1 := 186) (L1 := [some (.inl v0), some (.inl v1), some (.inl v2), some (.inl w0)]) (st1 := [.inl (7 : Int32)]) rfl ?_
      exact X_iret rfl rfl ⟨rfl, rfl⟩
  refine X_itq (fun h => ?_) (fun h7_26 => ?_)
  · refine X_tsk rfl h rfl ?_
    refine X_run 2 (i1 := cond (cn1 .eq w0) 191 189) (L1 := [some (.inl v0), some (.inl v1), some (.inl v2), some (.inl w0)]) (st1 := []) rfl ?_
    refine X_brq (fun hb188 => ?_) (fun hb188 => ?_)
    · refine X_run 3 (i1 := cond (cn2 .ne v1 (2 : Int32)) 196 194) (L1 := [some (.inl v0), some (.inl v1), some (.inl v2), some (.inl w0)]) (st1 := []) rfl ?_
      refine X_brq (fun hb193 => ?_) (fun hb193 => ?_)
      · refine X_run 3 (i1 := cond (cn2 .ne v2 (1 : Int32)) 201 199) (L1 := [some (.inl v0), some (.inl v1), some (.inl v2), some (.inl w0)]) (st1 := []) rfl ?_
        refine X_brq (fun hb198 => ?_) (fun hb198 => ?_)
        · refine X_run 3 (i1 := cond (cn2 .ne v2 (3 : Int32)) 206 204) (L1 := [some (.inl v0), some (.inl v1), some (.inl v2), some (.inl w0)]) (st1 := []) rfl ?_
          refine X_brq (fun hb203 => ?_) (fun hb203 => ?_)
          · refine X_run 1 (i1 := 207) (L1 := [some (.inl v0), some (.inl v1), some (.inl v2), some (.inl w0)]) (st1 := [.inl (7 : Int32)]) rfl ?_
            exact X_iret rfl rfl ⟨rfl, rfl⟩
          · refine X_run 2 (i1 := 207) (L1 := [some (.inl v0), some (.inl v1), some (.inl v2), some (.inl w0)]) (st1 := [.inl (15 : Int32)]) rfl ?_
            exact X_iret rfl rfl ⟨rfl, rfl⟩
        · refine X_run 2 (i1 := 207) (L1 := [some (.inl v0), some (.inl v1), some (.inl v2), some (.inl w0)]) (st1 := [.inl (3 : Int32)]) rfl ?_
          exact X_iret rfl rfl ⟨rfl, rfl⟩
      · refine X_run 2 (i1 := 207) (L1 := [some (.inl v0), some (.inl v1), some (.inl v2), some (.inl w0)]) (st1 := [.inl (15 : Int32)]) rfl ?_
        exact X_iret rfl rfl ⟨rfl, rfl⟩
    · refine X_run 2 (i1 := 207) (L1 := [some (.inl v0), some (.inl v1), some (.inl v2), some (.inl w0)]) (st1 := [.inl (3 : Int32)]) rfl ?_
      exact X_iret rfl rfl ⟨rfl, rfl⟩
  refine X_itq (fun h => ?_) (fun h7_27 => ?_)
  · refine X_tsk rfl h rfl ?_
    refine X_run 2 (i1 := cond (cn1 .eq w0) 212 210) (L1 := [some (.inl v0), some (.inl v1), some (.inl v2), some (.inl w0)]) (st1 := []) rfl ?_
    refine X_brq (fun hb209 => ?_) (fun hb209 => ?_)
    · refine X_run 3 (i1 := cond (cn2 .ne v1 (1 : Int32)) 217 215) (L1 := [some (.inl v0), some (.inl v1), some (.inl v2), some (.inl w0)]) (st1 := []) rfl ?_
      refine X_brq (fun hb214 => ?_) (fun hb214 => ?_)
      · refine X_run 3 (i1 := cond (cn2 .ne v2 (1 : Int32)) 222 220) (L1 := [some (.inl v0), some (.inl v1), some (.inl v2), some (.inl w0)]) (st1 := []) rfl ?_
        refine X_brq (fun hb219 => ?_) (fun hb219 => ?_)
        · refine X_run 3 (i1 := cond (cn2 .ne v2 (3 : Int32)) 227 225) (L1 := [some (.inl v0), some (.inl v1), some (.inl v2), some (.inl w0)]) (st1 := []) rfl ?_
          refine X_brq (fun hb224 => ?_) (fun hb224 => ?_)
          · refine X_run 1 (i1 := 228) (L1 := [some (.inl v0), some (.inl v1), some (.inl v2), some (.inl w0)]) (st1 := [.inl (7 : Int32)]) rfl ?_
            exact X_iret rfl rfl ⟨rfl, rfl⟩
          · refine X_run 2 (i1 := 228) (L1 := [some (.inl v0), some (.inl v1), some (.inl v2), some (.inl w0)]) (st1 := [.inl (15 : Int32)]) rfl ?_
            exact X_iret rfl rfl ⟨rfl, rfl⟩
        · refine X_run 2 (i1 := 228) (L1 := [some (.inl v0), some (.inl v1), some (.inl v2), some (.inl w0)]) (st1 := [.inl (3 : Int32)]) rfl ?_
          exact X_iret rfl rfl ⟨rfl, rfl⟩
      · refine X_run 2 (i1 := 228) (L1 := [some (.inl v0), some (.inl v1), some (.inl v2), some (.inl w0)]) (st1 := [.inl (15 : Int32)]) rfl ?_
        exact X_iret rfl rfl ⟨rfl, rfl⟩
    · refine X_run 2 (i1 := 228) (L1 := [some (.inl v0), some (.inl v1), some (.inl v2), some (.inl w0)]) (st1 := [.inl (3 : Int32)]) rfl ?_
      exact X_iret rfl rfl ⟨rfl, rfl⟩
  refine X_itq (fun h => ?_) (fun h7_28 => ?_)
  · refine X_tsk rfl h rfl ?_
    refine X_run 2 (i1 := cond (cn1 .eq w0) 233 231) (L1 := [some (.inl v0), some (.inl v1), some (.inl v2), some (.inl w0)]) (st1 := []) rfl ?_
    refine X_brq (fun hb230 => ?_) (fun hb230 => ?_)
    · refine X_run 3 (i1 := cond (cn2 .ne v1 (1 : Int32)) 238 236) (L1 := [some (.inl v0), some (.inl v1), some (.inl v2), some (.inl w0)]) (st1 := []) rfl ?_
      refine X_brq (fun hb235 => ?_) (fun hb235 => ?_)
      · refine X_run 3 (i1 := cond (cn2 .ne v1 (2 : Int32)) 243 241) (L1 := [some (.inl v0), some (.inl v1), some (.inl v2), some (.inl w0)]) (st1 := []) rfl ?_
        refine X_brq (fun hb240 => ?_) (fun hb240 => ?_)
        · refine X_run 1 (i1 := 244) (L1 := [some (.inl v0), some (.inl v1), some (.inl v2), some (.inl w0)]) (st1 := [.inl (7 : Int32)]) rfl ?_
          exact X_iret rfl rfl ⟨rfl, rfl⟩
        · refine X_run 2 (i1 := 244) (L1 := [some (.inl v0), some (.inl v1), some (.inl v2), some (.inl w0)]) (st1 := [.inl (15 : Int32)]) rfl ?_
          exact X_iret rfl rfl ⟨rfl, rfl⟩
      · refine X_run 2 (i1 := 244) (L1 := [some (.inl v0), some (.inl v1), some (.inl v2), some (.inl w0)]) (st1 := [.inl (3 : Int32)]) rfl ?_
        exact X_iret rfl rfl ⟨rfl, rfl⟩
    · refine X_run 2 (i1 := 244) (L1 := [some (.inl v0), some (.inl v1), some (.inl v2), some (.inl w0)]) (st1 := [.inl (5 : Int32)]) rfl ?_
      exact X_iret rfl rfl ⟨rfl, rfl⟩
  refine X_itq (fun h => ?_) (fun h7_29 => ?_)
  · refine X_tsk rfl h rfl ?_
    refine X_run 2 (i1 := cond (cn1 .eq w0) 249 247) (L1 := [some (.inl v0), some (.inl v1), some (.inl v2), some (.inl w0)]) (st1 := []) rfl ?_
    refine X_brq (fun hb246 => ?_) (fun hb246 => ?_)
    · refine X_run 1 (i1 := 250) (L1 := [some (.inl v0), some (.inl v1), some (.inl v2), some (.inl w0)]) (st1 := [.inl (200 : Int32)]) rfl ?_
      exact X_iret rfl rfl ⟨rfl, rfl⟩
    · refine X_run 2 (i1 := 250) (L1 := [some (.inl v0), some (.inl v1), some (.inl v2), some (.inl w0)]) (st1 := [.inl (7 : Int32)]) rfl ?_
      exact X_iret rfl rfl ⟨rfl, rfl⟩
  refine X_itq (fun h => ?_) (fun h7_30 => ?_)
  · refine X_tsk rfl h rfl ?_
    refine X_run 2 (i1 := cond (cn1 .eq w0) 255 253) (L1 := [some (.inl v0), some (.inl v1), some (.inl v2), some (.inl w0)]) (st1 := []) rfl ?_
    refine X_brq (fun hb252 => ?_) (fun hb252 => ?_)
    · refine X_run 1 (i1 := 256) (L1 := [some (.inl v0), some (.inl v1), some (.inl v2), some (.inl w0)]) (st1 := [.inl (200 : Int32)]) rfl ?_
      exact X_iret rfl rfl ⟨rfl, rfl⟩
    · refine X_run 2 (i1 := 256) (L1 := [some (.inl v0), some (.inl v1), some (.inl v2), some (.inl w0)]) (st1 := [.inl (7 : Int32)]) rfl ?_
      exact X_iret rfl rfl ⟨rfl, rfl⟩
  refine X_itq (fun h => ?_) (fun h7_31 => ?_)
  · refine X_tsk rfl h rfl ?_
    refine X_run 3 (i1 := cond (cn2 .ge v1 (3 : Int32)) 262 260) (L1 := [some (.inl v0), some (.inl v1), some (.inl v2), some (.inl w0)]) (st1 := []) rfl ?_
    refine X_brq (fun hb259 => ?_) (fun hb259 => ?_)
    · refine X_run 1 (i1 := 263) (L1 := [some (.inl v0), some (.inl v1), some (.inl v2), some (.inl w0)]) (st1 := [.inl (200 : Int32)]) rfl ?_
      exact X_iret rfl rfl ⟨rfl, rfl⟩
    · refine X_run 2 (i1 := 263) (L1 := [some (.inl v0), some (.inl v1), some (.inl v2), some (.inl w0)]) (st1 := [.inl (255 : Int32)]) rfl ?_
      exact X_iret rfl rfl ⟨rfl, rfl⟩
  refine X_itq (fun h => ?_) (fun h7_32 => ?_)
  · refine X_tsk rfl h rfl ?_
    refine X_run 1 (i1 := 66) (L1 := [some (.inl v0), some (.inl v1), some (.inl v2), some (.inl w0)]) (st1 := [.inl (15 : Int32)]) rfl ?_
    exact X_iret rfl rfl ⟨rfl, rfl⟩
  refine X_itq (fun h => ?_) (fun h7_33 => ?_)
  · refine X_tsk rfl h rfl ?_
    refine X_run 1 (i1 := 66) (L1 := [some (.inl v0), some (.inl v1), some (.inl v2), some (.inl w0)]) (st1 := [.inl (15 : Int32)]) rfl ?_
    exact X_iret rfl rfl ⟨rfl, rfl⟩
  refine X_tsd rfl ((sw_out (1) 34 (by decide) (by decide) (fun j hj => by
    match j, hj with
    | 0, _ => exact h7_0
    | 1, _ => exact h7_1
    | 2, _ => exact h7_2
    | 3, _ => exact h7_3
    | 4, _ => exact h7_4
    | 5, _ => exact h7_5
    | 6, _ => exact h7_6
    | 7, _ => exact h7_7
    | 8, _ => exact h7_8
    | 9, _ => exact h7_9
    | 10, _ => exact h7_10
    | 11, _ => exact h7_11
    | 12, _ => exact h7_12
    | 13, _ => exact h7_13
    | 14, _ => exact h7_14
    | 15, _ => exact h7_15
    | 16, _ => exact h7_16
    | 17, _ => exact h7_17
    | 18, _ => exact h7_18
    | 19, _ => exact h7_19
    | 20, _ => exact h7_20
    | 21, _ => exact h7_21
    | 22, _ => exact h7_22
    | 23, _ => exact h7_23
    | 24, _ => exact h7_24
    | 25, _ => exact h7_25
    | 26, _ => exact h7_26
    | 27, _ => exact h7_27
    | 28, _ => exact h7_28
    | 29, _ => exact h7_29
    | 30, _ => exact h7_30
    | 31, _ => exact h7_31
    | 32, _ => exact h7_32
    | 33, _ => exact h7_33
    | j + 34, hj => exact absurd hj (by omega))).imp id (fun h => by omega)) ?_
  refine X_run 3 (i1 := cond (cn2 .ge v1 (3 : Int32)) 262 260) (L1 := [some (.inl v0), some (.inl v1), some (.inl v2), some (.inl w0)]) (st1 := []) rfl ?_
  refine X_brq (fun hb259 => ?_) (fun hb259 => ?_)
  · refine X_run 1 (i1 := 263) (L1 := [some (.inl v0), some (.inl v1), some (.inl v2), some (.inl w0)]) (st1 := [.inl (200 : Int32)]) rfl ?_
    exact X_iret rfl rfl ⟨rfl, rfl⟩
  · refine X_run 2 (i1 := 263) (L1 := [some (.inl v0), some (.inl v1), some (.inl v2), some (.inl w0)]) (st1 := [.inl (255 : Int32)]) rfl ?_
    exact X_iret rfl rfl ⟨rfl, rfl⟩
def f_M_mostOf (a0 : Int32) (a1 : Int32) (a2 : Int32) : Int32 := (cond (cn1 .ne a1) (t_M_mostOf_5 a0 a1 a2 (0 : Int32)) (t_M_mostOf_5 a0 a1 a2 (1 : Int32)))
theorem c_M_mostOf {d : Nat} {P : AP} (a0 : Int32) (a1 : Int32) (a2 : Int32) : X m_M_mostOf (d) 0 (entL 4 [.inl a0, .inl a1, .inl a2]) [] P (qI P (f_M_mostOf a0 a1 a2)) := by
  unfold f_M_mostOf
  refine X_run 2 (i1 := cond (cn1 .ne a1) 4 2) (L1 := [some (.inl a0), some (.inl a1), some (.inl a2), none]) (st1 := []) rfl ?_
  refine X_brq (fun hb1 => ?_) (fun hb1 => ?_)
  · refine X_run 1 (i1 := 5) (L1 := [some (.inl a0), some (.inl a1), some (.inl a2), none]) (st1 := [.inl (0 : Int32)]) rfl ?_
    exact ct_M_mostOf_5 a0 a1 a2 (0 : Int32)
  · refine X_run 2 (i1 := 5) (L1 := [some (.inl a0), some (.inl a1), some (.inl a2), none]) (st1 := [.inl (1 : Int32)]) rfl ?_
    exact ct_M_mostOf_5 a0 a1 a2 (1 : Int32)
def t_M_leastOf_12 (v1 : Int32) : Int32 := (cond (cn1 .ne v1) (0 : Int32) (1 : Int32))
theorem ct_M_leastOf_12 {d : Nat} {P : AP} (v1 : Int32) : X m_M_leastOf (d) 12 [none, some (.inl v1)] [] P (qI P (t_M_leastOf_12 v1)) := by
  unfold t_M_leastOf_12
  refine X_run 2 (i1 := cond (cn1 .ne v1) 16 14) (L1 := [none, some (.inl v1)]) (st1 := []) rfl ?_
  refine X_brq (fun hb13 => ?_) (fun hb13 => ?_)
  · refine X_run 1 (i1 := 17) (L1 := [none, some (.inl v1)]) (st1 := [.inl (0 : Int32)]) rfl ?_
    exact X_iret rfl rfl ⟨rfl, rfl⟩
  · refine X_run 2 (i1 := 17) (L1 := [none, some (.inl v1)]) (st1 := [.inl (1 : Int32)]) rfl ?_
    exact X_iret rfl rfl ⟨rfl, rfl⟩
def t_M_leastOf_6 (v0 : Int32) (v1 : Int32) : Int32 := (cond (cn2 .eq v0 (19 : Int32)) (t_M_leastOf_12 v1) (cond (cn2 .ne v0 (20 : Int32)) (0 : Int32) (t_M_leastOf_12 v1)))
theorem ct_M_leastOf_6 {d : Nat} {P : AP} (v0 : Int32) (v1 : Int32) : X m_M_leastOf (d) 6 [some (.inl v0), some (.inl v1)] [] P (qI P (t_M_leastOf_6 v0 v1)) := by
  unfold t_M_leastOf_6
  refine X_run 3 (i1 := cond (cn2 .eq v0 (19 : Int32)) 12 9) (L1 := [some (.inl v0), some (.inl v1)]) (st1 := []) rfl ?_
  refine X_brq (fun hb8 => ?_) (fun hb8 => ?_)
  · refine X_mask [false, true] ?_
    exact ct_M_leastOf_12 v1
  · refine X_run 3 (i1 := cond (cn2 .ne v0 (20 : Int32)) 16 12) (L1 := [some (.inl v0), some (.inl v1)]) (st1 := []) rfl ?_
    refine X_brq (fun hb11 => ?_) (fun hb11 => ?_)
    · refine X_run 1 (i1 := 17) (L1 := [some (.inl v0), some (.inl v1)]) (st1 := [.inl (0 : Int32)]) rfl ?_
      exact X_iret rfl rfl ⟨rfl, rfl⟩
    · refine X_mask [false, true] ?_
      exact ct_M_leastOf_12 v1
def f_M_leastOf (a0 : Int32) (a1 : Int32) : Int32 := (cond (cn2 .ne a0 (12 : Int32)) (t_M_leastOf_6 a0 a1) (cond (cn2 .eq a1 (1 : Int32)) (1 : Int32) (t_M_leastOf_6 a0 a1)))
theorem c_M_leastOf {d : Nat} {P : AP} (a0 : Int32) (a1 : Int32) : X m_M_leastOf (d) 0 (entL 2 [.inl a0, .inl a1]) [] P (qI P (f_M_leastOf a0 a1)) := by
  unfold f_M_leastOf
  refine X_run 3 (i1 := cond (cn2 .ne a0 (12 : Int32)) 6 3) (L1 := [some (.inl a0), some (.inl a1)]) (st1 := []) rfl ?_
  refine X_brq (fun hb2 => ?_) (fun hb2 => ?_)
  · exact ct_M_leastOf_6 a0 a1
  · refine X_run 3 (i1 := cond (cn2 .eq a1 (1 : Int32)) 14 6) (L1 := [some (.inl a0), some (.inl a1)]) (st1 := []) rfl ?_
    refine X_brq (fun hb5 => ?_) (fun hb5 => ?_)
    · refine X_run 2 (i1 := 17) (L1 := [some (.inl a0), some (.inl a1)]) (st1 := [.inl (1 : Int32)]) rfl ?_
      exact X_iret rfl rfl ⟨rfl, rfl⟩
    · exact ct_M_leastOf_6 a0 a1
