def t_M_out_10 (s : St) (v1 : Int32) (w0 : Int32) : Int32 × St := (cond (cn1 .le w0) (sA s 33 (Int32.toNatClampNeg v1), pI s 21 0 w0) ((0 : Int32), pI s 21 0 w0))
def w_M_out_10 (s : St) (v1 : Int32) (w0 : Int32) : Prop := ((cn1 .le w0) = true → (vp_in v1 2000 ∧ True)) ∧ ((cn1 .le w0) = false → True)
theorem ct_M_out_10 {d : Nat} (s : St) (v1 : Int32) (w0 : Int32) (hw : w_M_out_10 s v1 w0) : X m_M_out (d) 10 [some (.inr (.inr (some 21))), some (.inl v1)] [.inl w0, .inr (.inr (some 21))] (hp s) (qIs (t_M_out_10 s v1 w0)) := by
  unfold t_M_out_10
  unfold w_M_out_10 at hw
  refine X_pI rfl rfl rfl rfl ?_
  refine X_run 1 (i1 := 12) (L1 := [some (.inr (.inr (some 21))), some (.inl v1)]) (st1 := [.inr (.inr (some 21))]) rfl ?_
  refine X_gF (v := .inl w0) rfl rfl rfl rfl ?_
  refine X_run 1 (i1 := cond (cn1 .le w0) 16 14) (L1 := [some (.inr (.inr (some 21))), some (.inl v1)]) (st1 := []) rfl ?_
  refine X_brq (fun hb => ?_) (fun hb => ?_)
  · have hw := hw.1 hb
    refine X_run 1 (i1 := 17) (L1 := [some (.inr (.inr (some 21))), some (.inl v1)]) (st1 := [.inr (.inr (some 21))]) rfl ?_
    refine X_gF (v := .inr (.inr (some 33))) rfl rfl rfl rfl ?_
    refine X_run 1 (i1 := 19) (L1 := [some (.inr (.inr (some 21))), some (.inl v1)]) (st1 := [.inl v1, .inr (.inr (some 33))]) rfl ?_
    obtain ⟨hin, hw⟩ := hw
    refine X_aI rfl rfl hin ?_
    show X _ _ 20 [some (.inr (.inr (some 21))), some (.inl v1)] [.inl (sA s 33 (Int32.toNatClampNeg v1))] (hp (pI s 21 0 w0)) _
    exact X_iret rfl rfl qIs_i
  · skip
    refine X_run 2 (i1 := 20) (L1 := [some (.inr (.inr (some 21))), some (.inl v1)]) (st1 := [.inl (0 : Int32)]) rfl ?_
    exact X_iret rfl rfl qIs_i
def t_M_out_7 (s : St) (v1 : Int32) : Int32 × St := (t_M_out_10 s v1 (1 : Int32))
def w_M_out_7 (s : St) (v1 : Int32) : Prop := (w_M_out_10 s v1 (1 : Int32))
theorem ct_M_out_7 {d : Nat} (s : St) (v1 : Int32) (hw : w_M_out_7 s v1) : X m_M_out (d) 7 [some (.inr (.inr (some 21))), some (.inl v1)] [.inr (.inr (some 21))] (hp s) (qIs (t_M_out_7 s v1)) := by
  unfold t_M_out_7
  unfold w_M_out_7 at hw
  refine X_run 2 (i1 := 10) (L1 := [some (.inr (.inr (some 21))), some (.inl v1)]) (st1 := [.inl (1 : Int32), .inr (.inr (some 21))]) rfl ?_
  exact ct_M_out_10 s v1 (1 : Int32) hw
def f_M_out (s : St) (a0 : Int32) : Int32 × St := (cond (cn1 .lt a0) (t_M_out_7 s a0) (cond (cn2 .lt a0 (sI s 21 24)) (t_M_out_10 s a0 (0 : Int32)) (t_M_out_7 s a0)))
def w_M_out (s : St) (a0 : Int32) : Prop := ((cn1 .lt a0) = true → (w_M_out_7 s a0)) ∧ ((cn1 .lt a0) = false → ((cn2 .lt a0 (sI s 21 24)) = true → (w_M_out_10 s a0 (0 : Int32))) ∧ ((cn2 .lt a0 (sI s 21 24)) = false → (w_M_out_7 s a0)))
theorem c_M_out {d : Nat} (s : St) (a0 : Int32) (hw : w_M_out s a0) : X m_M_out (d) 0 (entL 2 [.inr (.inr (some 21)), .inl a0]) [] (hp s) (qIs (f_M_out s a0)) := by
  unfold f_M_out
  unfold w_M_out at hw
  refine X_run 3 (i1 := cond (cn1 .lt a0) 7 3) (L1 := [some (.inr (.inr (some 21))), some (.inl a0)]) (st1 := [.inr (.inr (some 21))]) rfl ?_
  refine X_brq (fun hb => ?_) (fun hb => ?_)
  · have hw := hw.1 hb
    exact ct_M_out_7 s a0 hw
  · have hw := hw.2 hb
    refine X_run 2 (i1 := 5) (L1 := [some (.inr (.inr (some 21))), some (.inl a0)]) (st1 := [.inr (.inr (some 21)), .inl a0, .inr (.inr (some 21))]) rfl ?_
    refine X_gF (v := .inl (sI s 21 24)) rfl rfl rfl rfl ?_
    refine X_run 1 (i1 := cond (cn2 .lt a0 (sI s 21 24)) 9 7) (L1 := [some (.inr (.inr (some 21))), some (.inl a0)]) (st1 := [.inr (.inr (some 21))]) rfl ?_
    refine X_brq (fun hb => ?_) (fun hb => ?_)
    · have hw := hw.1 hb
      refine X_run 1 (i1 := 10) (L1 := [some (.inr (.inr (some 21))), some (.inl a0)]) (st1 := [.inl (0 : Int32), .inr (.inr (some 21))]) rfl ?_
      exact ct_M_out_10 s a0 (0 : Int32) hw
    · have hw := hw.2 hb
      exact ct_M_out_7 s a0 hw
def f_M_look (s : St) (a0 : Int32) : Int32 × St := (if a0 = (0 : Int32) then (sI s 21 13, pI s 21 0 (0 : Int32)) else (if a0 = (1 : Int32) then (sI s 21 14, pI s 21 0 (0 : Int32)) else (if a0 = (2 : Int32) then (sI s 21 11, pI s 21 0 (0 : Int32)) else (if a0 = (3 : Int32) then (sI s 21 8, pI s 21 0 (0 : Int32)) else (if a0 = (4 : Int32) then (sI s 21 23, pI s 21 0 (0 : Int32)) else (if a0 = (5 : Int32) then (sI s 21 24, pI s 21 0 (0 : Int32)) else (if a0 = (6 : Int32) then (cond (cn1 .eq (sI s 21 15)) ((0 : Int32), pI s 21 0 (0 : Int32)) ((1 : Int32), pI s 21 0 (0 : Int32))) else (cond (cn2 .le a0 (6 : Int32)) ((-1 : Int32), pI s 21 0 (0 : Int32)) (cond (cn2 .ge a0 (23 : Int32)) ((-1 : Int32), pI s 21 0 (0 : Int32)) (sA s 31 (Int32.toNatClampNeg (a0 - (7 : Int32))), pI s 21 0 (0 : Int32)))))))))))
def w_M_look (s : St) (a0 : Int32) : Prop := ((a0 = (0 : Int32) → True) ∧ (¬ a0 = (0 : Int32) → ((a0 = (1 : Int32) → True) ∧ (¬ a0 = (1 : Int32) → ((a0 = (2 : Int32) → True) ∧ (¬ a0 = (2 : Int32) → ((a0 = (3 : Int32) → True) ∧ (¬ a0 = (3 : Int32) → ((a0 = (4 : Int32) → True) ∧ (¬ a0 = (4 : Int32) → ((a0 = (5 : Int32) → True) ∧ (¬ a0 = (5 : Int32) → ((a0 = (6 : Int32) → True) ∧ (¬ a0 = (6 : Int32) → ((cn2 .le a0 (6 : Int32)) = true → True) ∧ ((cn2 .le a0 (6 : Int32)) = false → ((cn2 .ge a0 (23 : Int32)) = true → True) ∧ ((cn2 .ge a0 (23 : Int32)) = false → (vp_in (a0 - (7 : Int32)) 16 ∧ True)))))))))))))))))
theorem c_M_look {d : Nat} (s : St) (a0 : Int32) (hw : w_M_look s a0) : X m_M_look (d) 0 (entL 2 [.inr (.inr (some 21)), .inl a0]) [] (hp s) (qIs (f_M_look s a0)) := by
  unfold f_M_look
  unfold w_M_look at hw
  refine X_run 2 (i1 := 2) (L1 := [some (.inr (.inr (some 21))), some (.inl a0)]) (st1 := [.inl (0 : Int32), .inr (.inr (some 21))]) rfl ?_
  refine X_pI rfl rfl rfl rfl ?_
  refine X_run 1 (i1 := 4) (L1 := [some (.inr (.inr (some 21))), some (.inl a0)]) (st1 := [.inl a0]) rfl ?_
  refine X_itq (fun h => ?_) (fun h4_0 => ?_)
  · refine X_tsk rfl h rfl ?_
    refine X_run 1 (i1 := 6) (L1 := [some (.inr (.inr (some 21))), some (.inl a0)]) (st1 := [.inr (.inr (some 21))]) rfl ?_
    refine X_gF (v := .inl (sI s 21 13)) rfl rfl rfl rfl ?_
    exact X_iret rfl rfl qIs_i
  have hw := hw.2 h4_0
  refine X_itq (fun h => ?_) (fun h4_1 => ?_)
  · refine X_tsk rfl h rfl ?_
    refine X_run 1 (i1 := 9) (L1 := [some (.inr (.inr (some 21))), some (.inl a0)]) (st1 := [.inr (.inr (some 21))]) rfl ?_
    refine X_gF (v := .inl (sI s 21 14)) rfl rfl rfl rfl ?_
    exact X_iret rfl rfl qIs_i
  have hw := hw.2 h4_1
  refine X_itq (fun h => ?_) (fun h4_2 => ?_)
  · refine X_tsk rfl h rfl ?_
    refine X_run 1 (i1 := 12) (L1 := [some (.inr (.inr (some 21))), some (.inl a0)]) (st1 := [.inr (.inr (some 21))]) rfl ?_
    refine X_gF (v := .inl (sI s 21 11)) rfl rfl rfl rfl ?_
    exact X_iret rfl rfl qIs_i
  have hw := hw.2 h4_2
  refine X_itq (fun h => ?_) (fun h4_3 => ?_)
  · refine X_tsk rfl h rfl ?_
    refine X_run 1 (i1 := 15) (L1 := [some (.inr (.inr (some 21))), some (.inl a0)]) (st1 := [.inr (.inr (some 21))]) rfl ?_
    refine X_gF (v := .inl (sI s 21 8)) rfl rfl rfl rfl ?_
    exact X_iret rfl rfl qIs_i
  have hw := hw.2 h4_3
  refine X_itq (fun h => ?_) (fun h4_4 => ?_)
  · refine X_tsk rfl h rfl ?_
    refine X_run 1 (i1 := 18) (L1 := [some (.inr (.inr (some 21))), some (.inl a0)]) (st1 := [.inr (.inr (some 21))]) rfl ?_
    refine X_gF (v := .inl (sI s 21 23)) rfl rfl rfl rfl ?_
    exact X_iret rfl rfl qIs_i
  have hw := hw.2 h4_4
  refine X_itq (fun h => ?_) (fun h4_5 => ?_)
  · refine X_tsk rfl h rfl ?_
    refine X_run 1 (i1 := 21) (L1 := [some (.inr (.inr (some 21))), some (.inl a0)]) (st1 := [.inr (.inr (some 21))]) rfl ?_
    refine X_gF (v := .inl (sI s 21 24)) rfl rfl rfl rfl ?_
    exact X_iret rfl rfl qIs_i
  have hw := hw.2 h4_5
  refine X_itq (fun h => ?_) (fun h4_6 => ?_)
  · refine X_tsk rfl h rfl ?_
    refine X_run 1 (i1 := 24) (L1 := [some (.inr (.inr (some 21))), some (.inl a0)]) (st1 := [.inr (.inr (some 21))]) rfl ?_
    refine X_gF (v := .inl (sI s 21 15)) rfl rfl rfl rfl ?_
    refine X_run 1 (i1 := cond (cn1 .eq (sI s 21 15)) 28 26) (L1 := [some (.inr (.inr (some 21))), some (.inl a0)]) (st1 := []) rfl ?_
    refine X_brq (fun hb => ?_) (fun hb => ?_)
    · skip
      refine X_run 1 (i1 := 29) (L1 := [some (.inr (.inr (some 21))), some (.inl a0)]) (st1 := [.inl (0 : Int32)]) rfl ?_
      exact X_iret rfl rfl qIs_i
    · skip
      refine X_run 2 (i1 := 29) (L1 := [some (.inr (.inr (some 21))), some (.inl a0)]) (st1 := [.inl (1 : Int32)]) rfl ?_
      exact X_iret rfl rfl qIs_i
  have hw := hw.2 h4_6
  refine X_tsd rfl ((sw_out (0) 7 (by decide) (by decide) (fun j hj => by
    match j, hj with
    | 0, _ => exact h4_0
    | 1, _ => exact h4_1
    | 2, _ => exact h4_2
    | 3, _ => exact h4_3
    | 4, _ => exact h4_4
    | 5, _ => exact h4_5
    | 6, _ => exact h4_6
    | j + 7, hj => exact absurd hj (by omega))).imp id (fun h => by omega)) ?_
  refine X_run 3 (i1 := cond (cn2 .le a0 (6 : Int32)) 43 33) (L1 := [some (.inr (.inr (some 21))), some (.inl a0)]) (st1 := []) rfl ?_
  refine X_brq (fun hb => ?_) (fun hb => ?_)
  · skip
    refine X_run 1 (i1 := 44) (L1 := [some (.inr (.inr (some 21))), some (.inl a0)]) (st1 := [.inl (-1 : Int32)]) rfl ?_
    exact X_iret rfl rfl qIs_i
  · have hw := hw.2 hb
    refine X_run 3 (i1 := cond (cn2 .ge a0 (23 : Int32)) 43 36) (L1 := [some (.inr (.inr (some 21))), some (.inl a0)]) (st1 := []) rfl ?_
    refine X_brq (fun hb => ?_) (fun hb => ?_)
    · skip
      refine X_run 1 (i1 := 44) (L1 := [some (.inr (.inr (some 21))), some (.inl a0)]) (st1 := [.inl (-1 : Int32)]) rfl ?_
      exact X_iret rfl rfl qIs_i
    · have hw := hw.2 hb
      refine X_run 1 (i1 := 37) (L1 := [some (.inr (.inr (some 21))), some (.inl a0)]) (st1 := [.inr (.inr (some 21))]) rfl ?_
      refine X_gF (v := .inr (.inr (some 31))) rfl rfl rfl rfl ?_
      refine X_run 3 (i1 := 41) (L1 := [some (.inr (.inr (some 21))), some (.inl a0)]) (st1 := [.inl (a0 - (7 : Int32)), .inr (.inr (some 31))]) rfl ?_
      obtain ⟨hin, hw⟩ := hw
      refine X_aI rfl rfl hin ?_
      show X _ _ 42 [some (.inr (.inr (some 21))), some (.inl a0)] [.inl (sA s 31 (Int32.toNatClampNeg (a0 - (7 : Int32))))] (hp (pI s 21 0 (0 : Int32))) _
      refine X_run 1 (i1 := 44) (L1 := [some (.inr (.inr (some 21))), some (.inl a0)]) (st1 := [.inl (sA s 31 (Int32.toNatClampNeg (a0 - (7 : Int32))))]) rfl ?_
      exact X_iret rfl rfl qIs_i
def t_M_number_9 (s : St) (v1 : Int32) (w0 : Int32) : Int32 × St := (cond (cn1 .le w0) (sA s 28 (Int32.toNatClampNeg v1), pI s 21 0 w0) ((0 : Int32), pI s 21 0 w0))
def w_M_number_9 (s : St) (v1 : Int32) (w0 : Int32) : Prop := ((cn1 .le w0) = true → (vp_in v1 8 ∧ True)) ∧ ((cn1 .le w0) = false → True)
theorem ct_M_number_9 {d : Nat} (s : St) (v1 : Int32) (w0 : Int32) (hw : w_M_number_9 s v1 w0) : X m_M_number (d) 9 [some (.inr (.inr (some 21))), some (.inl v1)] [.inl w0, .inr (.inr (some 21))] (hp s) (qIs (t_M_number_9 s v1 w0)) := by
  unfold t_M_number_9
  unfold w_M_number_9 at hw
  refine X_pI rfl rfl rfl rfl ?_
  refine X_run 1 (i1 := 11) (L1 := [some (.inr (.inr (some 21))), some (.inl v1)]) (st1 := [.inr (.inr (some 21))]) rfl ?_
  refine X_gF (v := .inl w0) rfl rfl rfl rfl ?_
  refine X_run 1 (i1 := cond (cn1 .le w0) 15 13) (L1 := [some (.inr (.inr (some 21))), some (.inl v1)]) (st1 := []) rfl ?_
  refine X_brq (fun hb => ?_) (fun hb => ?_)
  · have hw := hw.1 hb
    refine X_run 1 (i1 := 16) (L1 := [some (.inr (.inr (some 21))), some (.inl v1)]) (st1 := [.inr (.inr (some 21))]) rfl ?_
    refine X_gF (v := .inr (.inr (some 28))) rfl rfl rfl rfl ?_
    refine X_run 1 (i1 := 18) (L1 := [some (.inr (.inr (some 21))), some (.inl v1)]) (st1 := [.inl v1, .inr (.inr (some 28))]) rfl ?_
    obtain ⟨hin, hw⟩ := hw
    refine X_aI rfl rfl hin ?_
    show X _ _ 19 [some (.inr (.inr (some 21))), some (.inl v1)] [.inl (sA s 28 (Int32.toNatClampNeg v1))] (hp (pI s 21 0 w0)) _
    exact X_iret rfl rfl qIs_i
  · skip
    refine X_run 2 (i1 := 19) (L1 := [some (.inr (.inr (some 21))), some (.inl v1)]) (st1 := [.inl (0 : Int32)]) rfl ?_
    exact X_iret rfl rfl qIs_i
def t_M_number_6 (s : St) (v1 : Int32) : Int32 × St := (t_M_number_9 s v1 (1 : Int32))
def w_M_number_6 (s : St) (v1 : Int32) : Prop := (w_M_number_9 s v1 (1 : Int32))
theorem ct_M_number_6 {d : Nat} (s : St) (v1 : Int32) (hw : w_M_number_6 s v1) : X m_M_number (d) 6 [some (.inr (.inr (some 21))), some (.inl v1)] [.inr (.inr (some 21))] (hp s) (qIs (t_M_number_6 s v1)) := by
  unfold t_M_number_6
  unfold w_M_number_6 at hw
  refine X_run 2 (i1 := 9) (L1 := [some (.inr (.inr (some 21))), some (.inl v1)]) (st1 := [.inl (1 : Int32), .inr (.inr (some 21))]) rfl ?_
  exact ct_M_number_9 s v1 (1 : Int32) hw
def f_M_number (s : St) (a0 : Int32) : Int32 × St := (cond (cn1 .lt a0) (t_M_number_6 s a0) (cond (cn2 .le a0 (7 : Int32)) (t_M_number_9 s a0 (0 : Int32)) (t_M_number_6 s a0)))
def w_M_number (s : St) (a0 : Int32) : Prop := ((cn1 .lt a0) = true → (w_M_number_6 s a0)) ∧ ((cn1 .lt a0) = false → ((cn2 .le a0 (7 : Int32)) = true → (w_M_number_9 s a0 (0 : Int32))) ∧ ((cn2 .le a0 (7 : Int32)) = false → (w_M_number_6 s a0)))
theorem c_M_number {d : Nat} (s : St) (a0 : Int32) (hw : w_M_number s a0) : X m_M_number (d) 0 (entL 2 [.inr (.inr (some 21)), .inl a0]) [] (hp s) (qIs (f_M_number s a0)) := by
  unfold f_M_number
  unfold w_M_number at hw
  refine X_run 3 (i1 := cond (cn1 .lt a0) 6 3) (L1 := [some (.inr (.inr (some 21))), some (.inl a0)]) (st1 := [.inr (.inr (some 21))]) rfl ?_
  refine X_brq (fun hb => ?_) (fun hb => ?_)
  · have hw := hw.1 hb
    exact ct_M_number_6 s a0 hw
  · have hw := hw.2 hb
    refine X_run 3 (i1 := cond (cn2 .le a0 (7 : Int32)) 8 6) (L1 := [some (.inr (.inr (some 21))), some (.inl a0)]) (st1 := [.inr (.inr (some 21))]) rfl ?_
    refine X_brq (fun hb => ?_) (fun hb => ?_)
    · have hw := hw.1 hb
      refine X_run 1 (i1 := 9) (L1 := [some (.inr (.inr (some 21))), some (.inl a0)]) (st1 := [.inl (0 : Int32), .inr (.inr (some 21))]) rfl ?_
      exact ct_M_number_9 s a0 (0 : Int32) hw
    · have hw := hw.2 hb
      exact ct_M_number_6 s a0 hw
def t_M_real_9 (s : St) (v1 : Int32) (w0 : Int32) : Int64 × St := (cond (cn1 .le w0) (sB s 29 (Int32.toNatClampNeg v1), pI s 21 0 w0) ((0 : Int64), pI s 21 0 w0))
def w_M_real_9 (s : St) (v1 : Int32) (w0 : Int32) : Prop := ((cn1 .le w0) = true → (vp_in v1 4 ∧ True)) ∧ ((cn1 .le w0) = false → True)
theorem ct_M_real_9 {d : Nat} (s : St) (v1 : Int32) (w0 : Int32) (hw : w_M_real_9 s v1 w0) : X m_M_real (d) 9 [some (.inr (.inr (some 21))), some (.inl v1)] [.inl w0, .inr (.inr (some 21))] (hp s) (qLs (t_M_real_9 s v1 w0)) := by
  unfold t_M_real_9
  unfold w_M_real_9 at hw
  refine X_pI rfl rfl rfl rfl ?_
  refine X_run 1 (i1 := 11) (L1 := [some (.inr (.inr (some 21))), some (.inl v1)]) (st1 := [.inr (.inr (some 21))]) rfl ?_
  refine X_gF (v := .inl w0) rfl rfl rfl rfl ?_
  refine X_run 1 (i1 := cond (cn1 .le w0) 15 13) (L1 := [some (.inr (.inr (some 21))), some (.inl v1)]) (st1 := []) rfl ?_
  refine X_brq (fun hb => ?_) (fun hb => ?_)
  · have hw := hw.1 hb
    refine X_run 1 (i1 := 16) (L1 := [some (.inr (.inr (some 21))), some (.inl v1)]) (st1 := [.inr (.inr (some 21))]) rfl ?_
    refine X_gF (v := .inr (.inr (some 29))) rfl rfl rfl rfl ?_
    refine X_run 1 (i1 := 18) (L1 := [some (.inr (.inr (some 21))), some (.inl v1)]) (st1 := [.inl v1, .inr (.inr (some 29))]) rfl ?_
    obtain ⟨hin, hw⟩ := hw
    refine X_aL rfl rfl hin ?_
    show X _ _ 19 [some (.inr (.inr (some 21))), some (.inl v1)] [.inr (.inl (sB s 29 (Int32.toNatClampNeg v1)))] (hp (pI s 21 0 w0)) _
    exact X_lret rfl rfl qLs_i
  · skip
    refine X_run 2 (i1 := 19) (L1 := [some (.inr (.inr (some 21))), some (.inl v1)]) (st1 := [.inr (.inl (0 : Int64))]) rfl ?_
    exact X_lret rfl rfl qLs_i
def t_M_real_6 (s : St) (v1 : Int32) : Int64 × St := (t_M_real_9 s v1 (1 : Int32))
def w_M_real_6 (s : St) (v1 : Int32) : Prop := (w_M_real_9 s v1 (1 : Int32))
theorem ct_M_real_6 {d : Nat} (s : St) (v1 : Int32) (hw : w_M_real_6 s v1) : X m_M_real (d) 6 [some (.inr (.inr (some 21))), some (.inl v1)] [.inr (.inr (some 21))] (hp s) (qLs (t_M_real_6 s v1)) := by
  unfold t_M_real_6
  unfold w_M_real_6 at hw
  refine X_run 2 (i1 := 9) (L1 := [some (.inr (.inr (some 21))), some (.inl v1)]) (st1 := [.inl (1 : Int32), .inr (.inr (some 21))]) rfl ?_
  exact ct_M_real_9 s v1 (1 : Int32) hw
def f_M_real (s : St) (a0 : Int32) : Int64 × St := (cond (cn1 .lt a0) (t_M_real_6 s a0) (cond (cn2 .le a0 (3 : Int32)) (t_M_real_9 s a0 (0 : Int32)) (t_M_real_6 s a0)))
def w_M_real (s : St) (a0 : Int32) : Prop := ((cn1 .lt a0) = true → (w_M_real_6 s a0)) ∧ ((cn1 .lt a0) = false → ((cn2 .le a0 (3 : Int32)) = true → (w_M_real_9 s a0 (0 : Int32))) ∧ ((cn2 .le a0 (3 : Int32)) = false → (w_M_real_6 s a0)))
theorem c_M_real {d : Nat} (s : St) (a0 : Int32) (hw : w_M_real s a0) : X m_M_real (d) 0 (entL 2 [.inr (.inr (some 21)), .inl a0]) [] (hp s) (qLs (f_M_real s a0)) := by
  unfold f_M_real
  unfold w_M_real at hw
  refine X_run 3 (i1 := cond (cn1 .lt a0) 6 3) (L1 := [some (.inr (.inr (some 21))), some (.inl a0)]) (st1 := [.inr (.inr (some 21))]) rfl ?_
  refine X_brq (fun hb => ?_) (fun hb => ?_)
  · have hw := hw.1 hb
    exact ct_M_real_6 s a0 hw
  · have hw := hw.2 hb
    refine X_run 3 (i1 := cond (cn2 .le a0 (3 : Int32)) 8 6) (L1 := [some (.inr (.inr (some 21))), some (.inl a0)]) (st1 := [.inr (.inr (some 21))]) rfl ?_
    refine X_brq (fun hb => ?_) (fun hb => ?_)
    · have hw := hw.1 hb
      refine X_run 1 (i1 := 9) (L1 := [some (.inr (.inr (some 21))), some (.inl a0)]) (st1 := [.inl (0 : Int32), .inr (.inr (some 21))]) rfl ?_
      exact ct_M_real_9 s a0 (0 : Int32) hw
    · have hw := hw.2 hb
      exact ct_M_real_6 s a0 hw
def f_M_slot (s : St) (a0 : Int32) (a1 : Int32) : Int32 × St := (cond (cn1 .lt a0) ((-1 : Int32), pI s 21 0 (0 : Int32)) (cond (cn2 .le a0 (15 : Int32)) (cond (cn1 .ne a1) (cond (cn2 .ne a1 (1 : Int32)) (cond (cn2 .ne a1 (2 : Int32)) ((-1 : Int32), pI s 21 0 (0 : Int32)) (cond (cn1 .le (sA s 27 (Int32.toNatClampNeg a0))) ((-1 : Int32), pI s 21 0 (0 : Int32)) (cond (cn2 .ne (sA s 22 (Int32.toNatClampNeg (sA s 27 (Int32.toNatClampNeg a0)))) (10 : Int32)) ((-1 : Int32), pI s 21 0 (0 : Int32)) (sA s 25 (Int32.toNatClampNeg (sA s 27 (Int32.toNatClampNeg a0))), pI s 21 0 (0 : Int32))))) (cond (cn1 .le (sA s 27 (Int32.toNatClampNeg a0))) ((-1 : Int32), pI s 21 0 (0 : Int32)) (cond (cn1 .eq (b2i (f_M_hasMembers (pI s 21 0 (0 : Int32)) (sA s 27 (Int32.toNatClampNeg a0))))) ((-1 : Int32), pI s 21 0 (0 : Int32)) (sA s 24 (Int32.toNatClampNeg (sA s 27 (Int32.toNatClampNeg a0))), pI s 21 0 (0 : Int32))))) (cond (cn1 .ne (sA s 27 (Int32.toNatClampNeg a0))) (sA s 22 (Int32.toNatClampNeg (sA s 27 (Int32.toNatClampNeg a0))), pI s 21 0 (0 : Int32)) ((0 : Int32), pI s 21 0 (0 : Int32)))) ((-1 : Int32), pI s 21 0 (0 : Int32))))
def w_M_slot (s : St) (a0 : Int32) (a1 : Int32) : Prop := ((cn1 .lt a0) = true → True) ∧ ((cn1 .lt a0) = false → ((cn2 .le a0 (15 : Int32)) = true → (vp_in a0 16 ∧ ((cn1 .ne a1) = true → ((cn2 .ne a1 (1 : Int32)) = true → ((cn2 .ne a1 (2 : Int32)) = true → True) ∧ ((cn2 .ne a1 (2 : Int32)) = false → ((cn1 .le (sA s 27 (Int32.toNatClampNeg a0))) = true → True) ∧ ((cn1 .le (sA s 27 (Int32.toNatClampNeg a0))) = false → (vp_in (sA s 27 (Int32.toNatClampNeg a0)) 40001 ∧ ((cn2 .ne (sA s 22 (Int32.toNatClampNeg (sA s 27 (Int32.toNatClampNeg a0)))) (10 : Int32)) = true → True) ∧ ((cn2 .ne (sA s 22 (Int32.toNatClampNeg (sA s 27 (Int32.toNatClampNeg a0)))) (10 : Int32)) = false → (vp_in (sA s 27 (Int32.toNatClampNeg a0)) 40001 ∧ True)))))) ∧ ((cn2 .ne a1 (1 : Int32)) = false → ((cn1 .le (sA s 27 (Int32.toNatClampNeg a0))) = true → True) ∧ ((cn1 .le (sA s 27 (Int32.toNatClampNeg a0))) = false → (w_M_hasMembers (pI s 21 0 (0 : Int32)) (sA s 27 (Int32.toNatClampNeg a0)) ∧ ((cn1 .eq (b2i (f_M_hasMembers (pI s 21 0 (0 : Int32)) (sA s 27 (Int32.toNatClampNeg a0))))) = true → True) ∧ ((cn1 .eq (b2i (f_M_hasMembers (pI s 21 0 (0 : Int32)) (sA s 27 (Int32.toNatClampNeg a0))))) = false → (vp_in (sA s 27 (Int32.toNatClampNeg a0)) 40001 ∧ True)))))) ∧ ((cn1 .ne a1) = false → ((cn1 .ne (sA s 27 (Int32.toNatClampNeg a0))) = true → (vp_in (sA s 27 (Int32.toNatClampNeg a0)) 40001 ∧ True)) ∧ ((cn1 .ne (sA s 27 (Int32.toNatClampNeg a0))) = false → True)))) ∧ ((cn2 .le a0 (15 : Int32)) = false → True))
theorem c_M_slot {d : Nat} (s : St) (a0 : Int32) (a1 : Int32) (hw : w_M_slot s a0 a1) : X m_M_slot (d + 1) 0 (entL 4 [.inr (.inr (some 21)), .inl a0, .inl a1]) [] (hp s) (qIs (f_M_slot s a0 a1)) := by
  unfold f_M_slot
  unfold w_M_slot at hw
  refine X_run 2 (i1 := 2) (L1 := [some (.inr (.inr (some 21))), some (.inl a0), some (.inl a1), none]) (st1 := [.inl (0 : Int32), .inr (.inr (some 21))]) rfl ?_
  refine X_pI rfl rfl rfl rfl ?_
  refine X_run 2 (i1 := cond (cn1 .lt a0) 8 5) (L1 := [some (.inr (.inr (some 21))), some (.inl a0), some (.inl a1), none]) (st1 := []) rfl ?_
  refine X_brq (fun hb => ?_) (fun hb => ?_)
  · skip
    refine X_run 1 (i1 := 9) (L1 := [some (.inr (.inr (some 21))), some (.inl a0), some (.inl a1), none]) (st1 := [.inl (-1 : Int32)]) rfl ?_
    exact X_iret rfl rfl qIs_i
  · have hw := hw.2 hb
    refine X_run 3 (i1 := cond (cn2 .le a0 (15 : Int32)) 10 8) (L1 := [some (.inr (.inr (some 21))), some (.inl a0), some (.inl a1), none]) (st1 := []) rfl ?_
    refine X_brq (fun hb => ?_) (fun hb => ?_)
    · have hw := hw.1 hb
      refine X_run 1 (i1 := 11) (L1 := [some (.inr (.inr (some 21))), some (.inl a0), some (.inl a1), none]) (st1 := [.inr (.inr (some 21))]) rfl ?_
      refine X_gF (v := .inr (.inr (some 27))) rfl rfl rfl rfl ?_
      refine X_run 1 (i1 := 13) (L1 := [some (.inr (.inr (some 21))), some (.inl a0), some (.inl a1), none]) (st1 := [.inl a0, .inr (.inr (some 27))]) rfl ?_
      obtain ⟨hin, hw⟩ := hw
      refine X_aI rfl rfl hin ?_
      show X _ _ 14 [some (.inr (.inr (some 21))), some (.inl a0), some (.inl a1), none] [.inl (sA s 27 (Int32.toNatClampNeg a0))] (hp (pI s 21 0 (0 : Int32))) _
      refine X_run 3 (i1 := cond (cn1 .ne a1) 26 17) (L1 := [some (.inr (.inr (some 21))), some (.inl a0), some (.inl a1), some (.inl (sA s 27 (Int32.toNatClampNeg a0)))]) (st1 := []) rfl ?_
      refine X_brq (fun hb => ?_) (fun hb => ?_)
      · have hw := hw.1 hb
        refine X_run 3 (i1 := cond (cn2 .ne a1 (1 : Int32)) 42 29) (L1 := [some (.inr (.inr (some 21))), some (.inl a0), some (.inl a1), some (.inl (sA s 27 (Int32.toNatClampNeg a0)))]) (st1 := []) rfl ?_
        refine X_brq (fun hb => ?_) (fun hb => ?_)
        · have hw := hw.1 hb
          refine X_run 3 (i1 := cond (cn2 .ne a1 (2 : Int32)) 58 45) (L1 := [some (.inr (.inr (some 21))), some (.inl a0), some (.inl a1), some (.inl (sA s 27 (Int32.toNatClampNeg a0)))]) (st1 := []) rfl ?_
          refine X_brq (fun hb => ?_) (fun hb => ?_)
          · skip
            refine X_run 1 (i1 := 59) (L1 := [some (.inr (.inr (some 21))), some (.inl a0), some (.inl a1), some (.inl (sA s 27 (Int32.toNatClampNeg a0)))]) (st1 := [.inl (-1 : Int32)]) rfl ?_
            exact X_iret rfl rfl qIs_i
          · have hw := hw.2 hb
            refine X_run 2 (i1 := cond (cn1 .le (sA s 27 (Int32.toNatClampNeg a0))) 58 47) (L1 := [some (.inr (.inr (some 21))), some (.inl a0), some (.inl a1), some (.inl (sA s 27 (Int32.toNatClampNeg a0)))]) (st1 := []) rfl ?_
            refine X_brq (fun hb => ?_) (fun hb => ?_)
            · skip
              refine X_run 1 (i1 := 59) (L1 := [some (.inr (.inr (some 21))), some (.inl a0), some (.inl a1), some (.inl (sA s 27 (Int32.toNatClampNeg a0)))]) (st1 := [.inl (-1 : Int32)]) rfl ?_
              exact X_iret rfl rfl qIs_i
            · have hw := hw.2 hb
              refine X_run 1 (i1 := 48) (L1 := [some (.inr (.inr (some 21))), some (.inl a0), some (.inl a1), some (.inl (sA s 27 (Int32.toNatClampNeg a0)))]) (st1 := [.inr (.inr (some 21))]) rfl ?_
              refine X_gF (v := .inr (.inr (some 22))) rfl rfl rfl rfl ?_
              refine X_run 1 (i1 := 50) (L1 := [some (.inr (.inr (some 21))), some (.inl a0), some (.inl a1), some (.inl (sA s 27 (Int32.toNatClampNeg a0)))]) (st1 := [.inl (sA s 27 (Int32.toNatClampNeg a0)), .inr (.inr (some 22))]) rfl ?_
              obtain ⟨hin, hw⟩ := hw
              refine X_aI rfl rfl hin ?_
              show X _ _ 51 [some (.inr (.inr (some 21))), some (.inl a0), some (.inl a1), some (.inl (sA s 27 (Int32.toNatClampNeg a0)))] [.inl (sA s 22 (Int32.toNatClampNeg (sA s 27 (Int32.toNatClampNeg a0))))] (hp (pI s 21 0 (0 : Int32))) _
              refine X_run 2 (i1 := cond (cn2 .ne (sA s 22 (Int32.toNatClampNeg (sA s 27 (Int32.toNatClampNeg a0)))) (10 : Int32)) 58 53) (L1 := [some (.inr (.inr (some 21))), some (.inl a0), some (.inl a1), some (.inl (sA s 27 (Int32.toNatClampNeg a0)))]) (st1 := []) rfl ?_
              refine X_brq (fun hb => ?_) (fun hb => ?_)
              · skip
                refine X_run 1 (i1 := 59) (L1 := [some (.inr (.inr (some 21))), some (.inl a0), some (.inl a1), some (.inl (sA s 27 (Int32.toNatClampNeg a0)))]) (st1 := [.inl (-1 : Int32)]) rfl ?_
                exact X_iret rfl rfl qIs_i
              · have hw := hw.2 hb
                refine X_run 1 (i1 := 54) (L1 := [some (.inr (.inr (some 21))), some (.inl a0), some (.inl a1), some (.inl (sA s 27 (Int32.toNatClampNeg a0)))]) (st1 := [.inr (.inr (some 21))]) rfl ?_
                refine X_gF (v := .inr (.inr (some 25))) rfl rfl rfl rfl ?_
                refine X_run 1 (i1 := 56) (L1 := [some (.inr (.inr (some 21))), some (.inl a0), some (.inl a1), some (.inl (sA s 27 (Int32.toNatClampNeg a0)))]) (st1 := [.inl (sA s 27 (Int32.toNatClampNeg a0)), .inr (.inr (some 25))]) rfl ?_
                obtain ⟨hin, hw⟩ := hw
                refine X_aI rfl rfl hin ?_
                show X _ _ 57 [some (.inr (.inr (some 21))), some (.inl a0), some (.inl a1), some (.inl (sA s 27 (Int32.toNatClampNeg a0)))] [.inl (sA s 25 (Int32.toNatClampNeg (sA s 27 (Int32.toNatClampNeg a0))))] (hp (pI s 21 0 (0 : Int32))) _
                refine X_run 1 (i1 := 59) (L1 := [some (.inr (.inr (some 21))), some (.inl a0), some (.inl a1), some (.inl (sA s 27 (Int32.toNatClampNeg a0)))]) (st1 := [.inl (sA s 25 (Int32.toNatClampNeg (sA s 27 (Int32.toNatClampNeg a0))))]) rfl ?_
                exact X_iret rfl rfl qIs_i
        · have hw := hw.2 hb
          refine X_run 2 (i1 := cond (cn1 .le (sA s 27 (Int32.toNatClampNeg a0))) 40 31) (L1 := [some (.inr (.inr (some 21))), some (.inl a0), some (.inl a1), some (.inl (sA s 27 (Int32.toNatClampNeg a0)))]) (st1 := []) rfl ?_
          refine X_brq (fun hb => ?_) (fun hb => ?_)
          · skip
            refine X_run 1 (i1 := 41) (L1 := [some (.inr (.inr (some 21))), some (.inl a0), some (.inl a1), some (.inl (sA s 27 (Int32.toNatClampNeg a0)))]) (st1 := [.inl (-1 : Int32)]) rfl ?_
            exact X_iret rfl rfl qIs_i
          · have hw := hw.2 hb
            refine X_run 2 (i1 := 33) (L1 := [some (.inr (.inr (some 21))), some (.inl a0), some (.inl a1), some (.inl (sA s 27 (Int32.toNatClampNeg a0)))]) (st1 := [.inl (sA s 27 (Int32.toNatClampNeg a0)), .inr (.inr (some 21))]) rfl ?_
            obtain ⟨hc, hw⟩ := hw
            refine X_callv m_M_hasMembers (As := [.inl (sA s 27 (Int32.toNatClampNeg a0))]) (st := []) ok_M_hasMembers rfl rfl rfl (hp_obj rfl) rfl (Nat.le_of_ble_eq_true rfl) (Nat.le_of_ble_eq_true rfl) (c_M_hasMembers (d := d) (pI s 21 0 (0 : Int32)) (sA s 27 (Int32.toNatClampNeg a0)) hc) ?_
            rintro _ _ ⟨rfl, rfl⟩
            show X _ _ 34 [some (.inr (.inr (some 21))), some (.inl a0), some (.inl a1), some (.inl (sA s 27 (Int32.toNatClampNeg a0)))] [.inl (b2i (f_M_hasMembers (pI s 21 0 (0 : Int32)) (sA s 27 (Int32.toNatClampNeg a0))))] (hp (pI s 21 0 (0 : Int32))) _
            refine X_run 1 (i1 := cond (cn1 .eq (b2i (f_M_hasMembers (pI s 21 0 (0 : Int32)) (sA s 27 (Int32.toNatClampNeg a0))))) 40 35) (L1 := [some (.inr (.inr (some 21))), some (.inl a0), some (.inl a1), some (.inl (sA s 27 (Int32.toNatClampNeg a0)))]) (st1 := []) rfl ?_
            refine X_brq (fun hb => ?_) (fun hb => ?_)
            · skip
              refine X_run 1 (i1 := 41) (L1 := [some (.inr (.inr (some 21))), some (.inl a0), some (.inl a1), some (.inl (sA s 27 (Int32.toNatClampNeg a0)))]) (st1 := [.inl (-1 : Int32)]) rfl ?_
              exact X_iret rfl rfl qIs_i
            · have hw := hw.2 hb
              refine X_run 1 (i1 := 36) (L1 := [some (.inr (.inr (some 21))), some (.inl a0), some (.inl a1), some (.inl (sA s 27 (Int32.toNatClampNeg a0)))]) (st1 := [.inr (.inr (some 21))]) rfl ?_
              refine X_gF (v := .inr (.inr (some 24))) rfl rfl rfl rfl ?_
              refine X_run 1 (i1 := 38) (L1 := [some (.inr (.inr (some 21))), some (.inl a0), some (.inl a1), some (.inl (sA s 27 (Int32.toNatClampNeg a0)))]) (st1 := [.inl (sA s 27 (Int32.toNatClampNeg a0)), .inr (.inr (some 24))]) rfl ?_
              obtain ⟨hin, hw⟩ := hw
              refine X_aI rfl rfl hin ?_
              show X _ _ 39 [some (.inr (.inr (some 21))), some (.inl a0), some (.inl a1), some (.inl (sA s 27 (Int32.toNatClampNeg a0)))] [.inl (sA s 24 (Int32.toNatClampNeg (sA s 27 (Int32.toNatClampNeg a0))))] (hp (pI s 21 0 (0 : Int32))) _
              refine X_run 1 (i1 := 41) (L1 := [some (.inr (.inr (some 21))), some (.inl a0), some (.inl a1), some (.inl (sA s 27 (Int32.toNatClampNeg a0)))]) (st1 := [.inl (sA s 24 (Int32.toNatClampNeg (sA s 27 (Int32.toNatClampNeg a0))))]) rfl ?_
              exact X_iret rfl rfl qIs_i
      · have hw := hw.2 hb
        refine X_run 2 (i1 := cond (cn1 .ne (sA s 27 (Int32.toNatClampNeg a0))) 21 19) (L1 := [some (.inr (.inr (some 21))), some (.inl a0), some (.inl a1), some (.inl (sA s 27 (Int32.toNatClampNeg a0)))]) (st1 := []) rfl ?_
        refine X_brq (fun hb => ?_) (fun hb => ?_)
        · have hw := hw.1 hb
          refine X_run 1 (i1 := 22) (L1 := [some (.inr (.inr (some 21))), some (.inl a0), some (.inl a1), some (.inl (sA s 27 (Int32.toNatClampNeg a0)))]) (st1 := [.inr (.inr (some 21))]) rfl ?_
          refine X_gF (v := .inr (.inr (some 22))) rfl rfl rfl rfl ?_
          refine X_run 1 (i1 := 24) (L1 := [some (.inr (.inr (some 21))), some (.inl a0), some (.inl a1), some (.inl (sA s 27 (Int32.toNatClampNeg a0)))]) (st1 := [.inl (sA s 27 (Int32.toNatClampNeg a0)), .inr (.inr (some 22))]) rfl ?_
          obtain ⟨hin, hw⟩ := hw
          refine X_aI rfl rfl hin ?_
          show X _ _ 25 [some (.inr (.inr (some 21))), some (.inl a0), some (.inl a1), some (.inl (sA s 27 (Int32.toNatClampNeg a0)))] [.inl (sA s 22 (Int32.toNatClampNeg (sA s 27 (Int32.toNatClampNeg a0))))] (hp (pI s 21 0 (0 : Int32))) _
          exact X_iret rfl rfl qIs_i
        · skip
          refine X_run 2 (i1 := 25) (L1 := [some (.inr (.inr (some 21))), some (.inl a0), some (.inl a1), some (.inl (sA s 27 (Int32.toNatClampNeg a0)))]) (st1 := [.inl (0 : Int32)]) rfl ?_
          exact X_iret rfl rfl qIs_i
    · skip
      refine X_run 1 (i1 := 9) (L1 := [some (.inr (.inr (some 21))), some (.inl a0), some (.inl a1), none]) (st1 := [.inl (-1 : Int32)]) rfl ?_
      exact X_iret rfl rfl qIs_i
def t_M_member_46 (s : St) (v2 : Int32) (v3 : Int32) (v4 : Int32) (w0 : Int32) : Int64 × St := (cond (cn2 .lt v2 w0) (cond (cn2 .ne v4 (9 : Int32)) (cond (cn2 .ne v4 (10 : Int32)) (sB s 26 (Int32.toNatClampNeg ((sA s 23 (Int32.toNatClampNeg v3)) + v2)), pI s 21 0 (0 : Int32)) (cond (cn1 .ne (lg_cmp (sB s 26 (Int32.toNatClampNeg ((sA s 23 (Int32.toNatClampNeg v3)) + v2))) (0 : Int64))) (Int32.toInt64 ((sA s 22 (Int32.toNatClampNeg (Int64.toInt32 (sB s 26 (Int32.toNatClampNeg ((sA s 23 (Int32.toNatClampNeg v3)) + v2)))))) - (11 : Int32)), pI s 21 0 (0 : Int32)) ((-1 : Int64), pI s 21 0 (0 : Int32)))) (cond (cn1 .ne (lg_cmp (sB s 26 (Int32.toNatClampNeg ((sA s 23 (Int32.toNatClampNeg v3)) + v2))) (0 : Int64))) (Int32.toInt64 (sA s 24 (Int32.toNatClampNeg (Int64.toInt32 (sB s 26 (Int32.toNatClampNeg ((sA s 23 (Int32.toNatClampNeg v3)) + v2)))))), pI s 21 0 (0 : Int32)) ((-1 : Int64), pI s 21 0 (0 : Int32)))) ((0 : Int64), s))
def w_M_member_46 (s : St) (v2 : Int32) (v3 : Int32) (v4 : Int32) (w0 : Int32) : Prop := ((cn2 .lt v2 w0) = true → (vp_in v3 40001 ∧ (vp_in ((sA s 23 (Int32.toNatClampNeg v3)) + v2) 40001 ∧ ((cn2 .ne v4 (9 : Int32)) = true → ((cn2 .ne v4 (10 : Int32)) = true → True) ∧ ((cn2 .ne v4 (10 : Int32)) = false → ((cn1 .ne (lg_cmp (sB s 26 (Int32.toNatClampNeg ((sA s 23 (Int32.toNatClampNeg v3)) + v2))) (0 : Int64))) = true → (vp_in (Int64.toInt32 (sB s 26 (Int32.toNatClampNeg ((sA s 23 (Int32.toNatClampNeg v3)) + v2)))) 40001 ∧ True)) ∧ ((cn1 .ne (lg_cmp (sB s 26 (Int32.toNatClampNeg ((sA s 23 (Int32.toNatClampNeg v3)) + v2))) (0 : Int64))) = false → True))) ∧ ((cn2 .ne v4 (9 : Int32)) = false → ((cn1 .ne (lg_cmp (sB s 26 (Int32.toNatClampNeg ((sA s 23 (Int32.toNatClampNeg v3)) + v2))) (0 : Int64))) = true → (vp_in (Int64.toInt32 (sB s 26 (Int32.toNatClampNeg ((sA s 23 (Int32.toNatClampNeg v3)) + v2)))) 40001 ∧ True)) ∧ ((cn1 .ne (lg_cmp (sB s 26 (Int32.toNatClampNeg ((sA s 23 (Int32.toNatClampNeg v3)) + v2))) (0 : Int64))) = false → True))))) ∧ ((cn2 .lt v2 w0) = false → True)
theorem ct_M_member_46 {d : Nat} (s : St) (v2 : Int32) (v3 : Int32) (v4 : Int32) (w0 : Int32) (hw : w_M_member_46 s v2 v3 v4 w0) : X m_M_member (d) 46 [some (.inr (.inr (some 21))), none, some (.inl v2), some (.inl v3), some (.inl v4), none, none, none] [.inl w0] (hp s) (qLs (t_M_member_46 s v2 v3 v4 w0)) := by
  unfold t_M_member_46
  unfold w_M_member_46 at hw
  refine X_run 4 (i1 := cond (cn2 .lt v2 w0) 52 50) (L1 := [some (.inr (.inr (some 21))), none, some (.inl v2), some (.inl v3), some (.inl v4), some (.inl w0), none, none]) (st1 := []) rfl ?_
  refine X_brq (fun hb => ?_) (fun hb => ?_)
  · have hw := hw.1 hb
    refine X_run 2 (i1 := 54) (L1 := [some (.inr (.inr (some 21))), none, some (.inl v2), some (.inl v3), some (.inl v4), some (.inl w0), none, none]) (st1 := [.inl (0 : Int32), .inr (.inr (some 21))]) rfl ?_
    refine X_pI rfl rfl rfl rfl ?_
    refine X_run 1 (i1 := 56) (L1 := [some (.inr (.inr (some 21))), none, some (.inl v2), some (.inl v3), some (.inl v4), some (.inl w0), none, none]) (st1 := [.inr (.inr (some 21))]) rfl ?_
    refine X_gF (v := .inr (.inr (some 26))) rfl rfl rfl rfl ?_
    refine X_run 1 (i1 := 58) (L1 := [some (.inr (.inr (some 21))), none, some (.inl v2), some (.inl v3), some (.inl v4), some (.inl w0), none, none]) (st1 := [.inr (.inr (some 21)), .inr (.inr (some 26))]) rfl ?_
    refine X_gF (v := .inr (.inr (some 23))) rfl rfl rfl rfl ?_
    refine X_run 1 (i1 := 60) (L1 := [some (.inr (.inr (some 21))), none, some (.inl v2), some (.inl v3), some (.inl v4), some (.inl w0), none, none]) (st1 := [.inl v3, .inr (.inr (some 23)), .inr (.inr (some 26))]) rfl ?_
    obtain ⟨hin, hw⟩ := hw
    refine X_aI rfl rfl hin ?_
    show X _ _ 61 [some (.inr (.inr (some 21))), none, some (.inl v2), some (.inl v3), some (.inl v4), some (.inl w0), none, none] [.inl (sA s 23 (Int32.toNatClampNeg v3)), .inr (.inr (some 26))] (hp (pI s 21 0 (0 : Int32))) _
    refine X_run 2 (i1 := 63) (L1 := [some (.inr (.inr (some 21))), none, some (.inl v2), some (.inl v3), some (.inl v4), some (.inl w0), none, none]) (st1 := [.inl ((sA s 23 (Int32.toNatClampNeg v3)) + v2), .inr (.inr (some 26))]) rfl ?_
    obtain ⟨hin, hw⟩ := hw
    refine X_aL rfl rfl hin ?_
    show X _ _ 64 [some (.inr (.inr (some 21))), none, some (.inl v2), some (.inl v3), some (.inl v4), some (.inl w0), none, none] [.inr (.inl (sB s 26 (Int32.toNatClampNeg ((sA s 23 (Int32.toNatClampNeg v3)) + v2))))] (hp (pI s 21 0 (0 : Int32))) _
    refine X_run 4 (i1 := cond (cn2 .ne v4 (9 : Int32)) 81 68) (L1 := [some (.inr (.inr (some 21))), none, some (.inl v2), some (.inl v3), some (.inl v4), some (.inl w0), some (.inr (.inl (sB s 26 (Int32.toNatClampNeg ((sA s 23 (Int32.toNatClampNeg v3)) + v2))))), none]) (st1 := []) rfl ?_
    refine X_brq (fun hb => ?_) (fun hb => ?_)
    · have hw := hw.1 hb
      refine X_run 3 (i1 := cond (cn2 .ne v4 (10 : Int32)) 99 84) (L1 := [some (.inr (.inr (some 21))), none, some (.inl v2), some (.inl v3), some (.inl v4), some (.inl w0), some (.inr (.inl (sB s 26 (Int32.toNatClampNeg ((sA s 23 (Int32.toNatClampNeg v3)) + v2))))), none]) (st1 := []) rfl ?_
      refine X_brq (fun hb => ?_) (fun hb => ?_)
      · skip
        refine X_run 1 (i1 := 100) (L1 := [some (.inr (.inr (some 21))), none, some (.inl v2), some (.inl v3), some (.inl v4), some (.inl w0), some (.inr (.inl (sB s 26 (Int32.toNatClampNeg ((sA s 23 (Int32.toNatClampNeg v3)) + v2))))), none]) (st1 := [.inr (.inl (sB s 26 (Int32.toNatClampNeg ((sA s 23 (Int32.toNatClampNeg v3)) + v2))))]) rfl ?_
        exact X_lret rfl rfl qLs_i
      · have hw := hw.2 hb
        refine X_run 4 (i1 := cond (cn1 .ne (lg_cmp (sB s 26 (Int32.toNatClampNeg ((sA s 23 (Int32.toNatClampNeg v3)) + v2))) (0 : Int64))) 90 88) (L1 := [some (.inr (.inr (some 21))), none, some (.inl v2), some (.inl v3), some (.inl v4), some (.inl w0), some (.inr (.inl (sB s 26 (Int32.toNatClampNeg ((sA s 23 (Int32.toNatClampNeg v3)) + v2))))), none]) (st1 := []) rfl ?_
        refine X_brq (fun hb => ?_) (fun hb => ?_)
        · have hw := hw.1 hb
          refine X_run 1 (i1 := 91) (L1 := [some (.inr (.inr (some 21))), none, some (.inl v2), some (.inl v3), some (.inl v4), some (.inl w0), some (.inr (.inl (sB s 26 (Int32.toNatClampNeg ((sA s 23 (Int32.toNatClampNeg v3)) + v2))))), none]) (st1 := [.inr (.inr (some 21))]) rfl ?_
          refine X_gF (v := .inr (.inr (some 22))) rfl rfl rfl rfl ?_
          refine X_run 2 (i1 := 94) (L1 := [some (.inr (.inr (some 21))), none, some (.inl v2), some (.inl v3), some (.inl v4), some (.inl w0), some (.inr (.inl (sB s 26 (Int32.toNatClampNeg ((sA s 23 (Int32.toNatClampNeg v3)) + v2))))), none]) (st1 := [.inl (Int64.toInt32 (sB s 26 (Int32.toNatClampNeg ((sA s 23 (Int32.toNatClampNeg v3)) + v2)))), .inr (.inr (some 22))]) rfl ?_
          obtain ⟨hin, hw⟩ := hw
          refine X_aI rfl rfl hin ?_
          show X _ _ 95 [some (.inr (.inr (some 21))), none, some (.inl v2), some (.inl v3), some (.inl v4), some (.inl w0), some (.inr (.inl (sB s 26 (Int32.toNatClampNeg ((sA s 23 (Int32.toNatClampNeg v3)) + v2))))), none] [.inl (sA s 22 (Int32.toNatClampNeg (Int64.toInt32 (sB s 26 (Int32.toNatClampNeg ((sA s 23 (Int32.toNatClampNeg v3)) + v2))))))] (hp (pI s 21 0 (0 : Int32))) _
          refine X_run 4 (i1 := 100) (L1 := [some (.inr (.inr (some 21))), none, some (.inl v2), some (.inl v3), some (.inl v4), some (.inl w0), some (.inr (.inl (sB s 26 (Int32.toNatClampNeg ((sA s 23 (Int32.toNatClampNeg v3)) + v2))))), none]) (st1 := [.inr (.inl (Int32.toInt64 ((sA s 22 (Int32.toNatClampNeg (Int64.toInt32 (sB s 26 (Int32.toNatClampNeg ((sA s 23 (Int32.toNatClampNeg v3)) + v2)))))) - (11 : Int32))))]) rfl ?_
          exact X_lret rfl rfl qLs_i
        · skip
          refine X_run 2 (i1 := 100) (L1 := [some (.inr (.inr (some 21))), none, some (.inl v2), some (.inl v3), some (.inl v4), some (.inl w0), some (.inr (.inl (sB s 26 (Int32.toNatClampNeg ((sA s 23 (Int32.toNatClampNeg v3)) + v2))))), none]) (st1 := [.inr (.inl (-1 : Int64))]) rfl ?_
          exact X_lret rfl rfl qLs_i
    · have hw := hw.2 hb
      refine X_run 4 (i1 := cond (cn1 .ne (lg_cmp (sB s 26 (Int32.toNatClampNeg ((sA s 23 (Int32.toNatClampNeg v3)) + v2))) (0 : Int64))) 74 72) (L1 := [some (.inr (.inr (some 21))), none, some (.inl v2), some (.inl v3), some (.inl v4), some (.inl w0), some (.inr (.inl (sB s 26 (Int32.toNatClampNeg ((sA s 23 (Int32.toNatClampNeg v3)) + v2))))), none]) (st1 := []) rfl ?_
      refine X_brq (fun hb => ?_) (fun hb => ?_)
      · have hw := hw.1 hb
        refine X_run 1 (i1 := 75) (L1 := [some (.inr (.inr (some 21))), none, some (.inl v2), some (.inl v3), some (.inl v4), some (.inl w0), some (.inr (.inl (sB s 26 (Int32.toNatClampNeg ((sA s 23 (Int32.toNatClampNeg v3)) + v2))))), none]) (st1 := [.inr (.inr (some 21))]) rfl ?_
        refine X_gF (v := .inr (.inr (some 24))) rfl rfl rfl rfl ?_
        refine X_run 2 (i1 := 78) (L1 := [some (.inr (.inr (some 21))), none, some (.inl v2), some (.inl v3), some (.inl v4), some (.inl w0), some (.inr (.inl (sB s 26 (Int32.toNatClampNeg ((sA s 23 (Int32.toNatClampNeg v3)) + v2))))), none]) (st1 := [.inl (Int64.toInt32 (sB s 26 (Int32.toNatClampNeg ((sA s 23 (Int32.toNatClampNeg v3)) + v2)))), .inr (.inr (some 24))]) rfl ?_
        obtain ⟨hin, hw⟩ := hw
        refine X_aI rfl rfl hin ?_
        show X _ _ 79 [some (.inr (.inr (some 21))), none, some (.inl v2), some (.inl v3), some (.inl v4), some (.inl w0), some (.inr (.inl (sB s 26 (Int32.toNatClampNeg ((sA s 23 (Int32.toNatClampNeg v3)) + v2))))), none] [.inl (sA s 24 (Int32.toNatClampNeg (Int64.toInt32 (sB s 26 (Int32.toNatClampNeg ((sA s 23 (Int32.toNatClampNeg v3)) + v2))))))] (hp (pI s 21 0 (0 : Int32))) _
        refine X_run 1 (i1 := 80) (L1 := [some (.inr (.inr (some 21))), none, some (.inl v2), some (.inl v3), some (.inl v4), some (.inl w0), some (.inr (.inl (sB s 26 (Int32.toNatClampNeg ((sA s 23 (Int32.toNatClampNeg v3)) + v2))))), none]) (st1 := [.inr (.inl (Int32.toInt64 (sA s 24 (Int32.toNatClampNeg (Int64.toInt32 (sB s 26 (Int32.toNatClampNeg ((sA s 23 (Int32.toNatClampNeg v3)) + v2))))))))]) rfl ?_
        exact X_lret rfl rfl qLs_i
      · skip
        refine X_run 2 (i1 := 80) (L1 := [some (.inr (.inr (some 21))), none, some (.inl v2), some (.inl v3), some (.inl v4), some (.inl w0), some (.inr (.inl (sB s 26 (Int32.toNatClampNeg ((sA s 23 (Int32.toNatClampNeg v3)) + v2))))), none]) (st1 := [.inr (.inl (-1 : Int64))]) rfl ?_
        exact X_lret rfl rfl qLs_i
  · skip
    refine X_run 1 (i1 := 51) (L1 := [some (.inr (.inr (some 21))), none, some (.inl v2), some (.inl v3), some (.inl v4), some (.inl w0), none, none]) (st1 := [.inr (.inl (0 : Int64))]) rfl ?_
    exact X_lret rfl rfl qLs_i
def f_M_member (s : St) (a0 : Int32) (a1 : Int32) : Int64 × St := (cond (cn1 .lt a0) ((0 : Int64), pI s 21 0 (1 : Int32)) (cond (cn2 .gt a0 (15 : Int32)) ((0 : Int64), pI s 21 0 (1 : Int32)) (cond (cn1 .eq (sA s 27 (Int32.toNatClampNeg a0))) ((0 : Int64), pI s 21 0 (1 : Int32)) (cond (cn1 .ge a1) (cond (cn2 .ge (sA s 22 (Int32.toNatClampNeg (sA s 27 (Int32.toNatClampNeg a0)))) (11 : Int32)) (cond (cn2 .ne (sA s 22 (Int32.toNatClampNeg (sA s 27 (Int32.toNatClampNeg a0)))) (16 : Int32)) (cond (cn2 .le (sA s 22 (Int32.toNatClampNeg (sA s 27 (Int32.toNatClampNeg a0)))) (13 : Int32)) (t_M_member_46 (pI s 21 0 (1 : Int32)) a1 (sA s 27 (Int32.toNatClampNeg a0)) (sA s 22 (Int32.toNatClampNeg (sA s 27 (Int32.toNatClampNeg a0)))) (2 : Int32)) (t_M_member_46 (pI s 21 0 (1 : Int32)) a1 (sA s 27 (Int32.toNatClampNeg a0)) (sA s 22 (Int32.toNatClampNeg (sA s 27 (Int32.toNatClampNeg a0)))) (3 : Int32))) (t_M_member_46 (pI s 21 0 (1 : Int32)) a1 (sA s 27 (Int32.toNatClampNeg a0)) (sA s 22 (Int32.toNatClampNeg (sA s 27 (Int32.toNatClampNeg a0)))) (1 : Int32))) (t_M_member_46 (pI s 21 0 (1 : Int32)) a1 (sA s 27 (Int32.toNatClampNeg a0)) (sA s 22 (Int32.toNatClampNeg (sA s 27 (Int32.toNatClampNeg a0)))) (sA s 24 (Int32.toNatClampNeg (sA s 27 (Int32.toNatClampNeg a0)))))) ((0 : Int64), pI s 21 0 (1 : Int32))))))
def w_M_member (s : St) (a0 : Int32) (a1 : Int32) : Prop := ((cn1 .lt a0) = true → True) ∧ ((cn1 .lt a0) = false → ((cn2 .gt a0 (15 : Int32)) = true → True) ∧ ((cn2 .gt a0 (15 : Int32)) = false → (vp_in a0 16 ∧ ((cn1 .eq (sA s 27 (Int32.toNatClampNeg a0))) = true → True) ∧ ((cn1 .eq (sA s 27 (Int32.toNatClampNeg a0))) = false → ((cn1 .ge a1) = true → (vp_in a0 16 ∧ (vp_in (sA s 27 (Int32.toNatClampNeg a0)) 40001 ∧ ((cn2 .ge (sA s 22 (Int32.toNatClampNeg (sA s 27 (Int32.toNatClampNeg a0)))) (11 : Int32)) = true → ((cn2 .ne (sA s 22 (Int32.toNatClampNeg (sA s 27 (Int32.toNatClampNeg a0)))) (16 : Int32)) = true → ((cn2 .le (sA s 22 (Int32.toNatClampNeg (sA s 27 (Int32.toNatClampNeg a0)))) (13 : Int32)) = true → (w_M_member_46 (pI s 21 0 (1 : Int32)) a1 (sA s 27 (Int32.toNatClampNeg a0)) (sA s 22 (Int32.toNatClampNeg (sA s 27 (Int32.toNatClampNeg a0)))) (2 : Int32))) ∧ ((cn2 .le (sA s 22 (Int32.toNatClampNeg (sA s 27 (Int32.toNatClampNeg a0)))) (13 : Int32)) = false → (w_M_member_46 (pI s 21 0 (1 : Int32)) a1 (sA s 27 (Int32.toNatClampNeg a0)) (sA s 22 (Int32.toNatClampNeg (sA s 27 (Int32.toNatClampNeg a0)))) (3 : Int32)))) ∧ ((cn2 .ne (sA s 22 (Int32.toNatClampNeg (sA s 27 (Int32.toNatClampNeg a0)))) (16 : Int32)) = false → (w_M_member_46 (pI s 21 0 (1 : Int32)) a1 (sA s 27 (Int32.toNatClampNeg a0)) (sA s 22 (Int32.toNatClampNeg (sA s 27 (Int32.toNatClampNeg a0)))) (1 : Int32)))) ∧ ((cn2 .ge (sA s 22 (Int32.toNatClampNeg (sA s 27 (Int32.toNatClampNeg a0)))) (11 : Int32)) = false → (vp_in (sA s 27 (Int32.toNatClampNeg a0)) 40001 ∧ (w_M_member_46 (pI s 21 0 (1 : Int32)) a1 (sA s 27 (Int32.toNatClampNeg a0)) (sA s 22 (Int32.toNatClampNeg (sA s 27 (Int32.toNatClampNeg a0)))) (sA s 24 (Int32.toNatClampNeg (sA s 27 (Int32.toNatClampNeg a0)))))))))) ∧ ((cn1 .ge a1) = false → True)))))
theorem c_M_member {d : Nat} (s : St) (a0 : Int32) (a1 : Int32) (hw : w_M_member s a0 a1) : X m_M_member (d) 0 (entL 8 [.inr (.inr (some 21)), .inl a0, .inl a1]) [] (hp s) (qLs (f_M_member s a0 a1)) := by
  unfold f_M_member
  unfold w_M_member at hw
  refine X_run 2 (i1 := 2) (L1 := [some (.inr (.inr (some 21))), some (.inl a0), some (.inl a1), none, none, none, none, none]) (st1 := [.inl (1 : Int32), .inr (.inr (some 21))]) rfl ?_
  refine X_pI rfl rfl rfl rfl ?_
  refine X_run 2 (i1 := cond (cn1 .lt a0) 15 5) (L1 := [some (.inr (.inr (some 21))), some (.inl a0), some (.inl a1), none, none, none, none, none]) (st1 := []) rfl ?_
  refine X_brq (fun hb => ?_) (fun hb => ?_)
  · skip
    refine X_run 1 (i1 := 16) (L1 := [some (.inr (.inr (some 21))), some (.inl a0), some (.inl a1), none, none, none, none, none]) (st1 := [.inr (.inl (0 : Int64))]) rfl ?_
    exact X_lret rfl rfl qLs_i
  · have hw := hw.2 hb
    refine X_run 3 (i1 := cond (cn2 .gt a0 (15 : Int32)) 15 8) (L1 := [some (.inr (.inr (some 21))), some (.inl a0), some (.inl a1), none, none, none, none, none]) (st1 := []) rfl ?_
    refine X_brq (fun hb => ?_) (fun hb => ?_)
    · skip
      refine X_run 1 (i1 := 16) (L1 := [some (.inr (.inr (some 21))), some (.inl a0), some (.inl a1), none, none, none, none, none]) (st1 := [.inr (.inl (0 : Int64))]) rfl ?_
      exact X_lret rfl rfl qLs_i
    · have hw := hw.2 hb
      refine X_run 1 (i1 := 9) (L1 := [some (.inr (.inr (some 21))), some (.inl a0), some (.inl a1), none, none, none, none, none]) (st1 := [.inr (.inr (some 21))]) rfl ?_
      refine X_gF (v := .inr (.inr (some 27))) rfl rfl rfl rfl ?_
      refine X_run 1 (i1 := 11) (L1 := [some (.inr (.inr (some 21))), some (.inl a0), some (.inl a1), none, none, none, none, none]) (st1 := [.inl a0, .inr (.inr (some 27))]) rfl ?_
      obtain ⟨hin, hw⟩ := hw
      refine X_aI rfl rfl hin ?_
      show X _ _ 12 [some (.inr (.inr (some 21))), some (.inl a0), some (.inl a1), none, none, none, none, none] [.inl (sA s 27 (Int32.toNatClampNeg a0))] (hp (pI s 21 0 (1 : Int32))) _
      refine X_run 1 (i1 := cond (cn1 .eq (sA s 27 (Int32.toNatClampNeg a0))) 15 13) (L1 := [some (.inr (.inr (some 21))), some (.inl a0), some (.inl a1), none, none, none, none, none]) (st1 := []) rfl ?_
      refine X_brq (fun hb => ?_) (fun hb => ?_)
      · skip
        refine X_run 1 (i1 := 16) (L1 := [some (.inr (.inr (some 21))), some (.inl a0), some (.inl a1), none, none, none, none, none]) (st1 := [.inr (.inl (0 : Int64))]) rfl ?_
        exact X_lret rfl rfl qLs_i
      · have hw := hw.2 hb
        refine X_run 2 (i1 := cond (cn1 .ge a1) 17 15) (L1 := [some (.inr (.inr (some 21))), some (.inl a0), some (.inl a1), none, none, none, none, none]) (st1 := []) rfl ?_
        refine X_brq (fun hb => ?_) (fun hb => ?_)
        · have hw := hw.1 hb
          refine X_run 1 (i1 := 18) (L1 := [some (.inr (.inr (some 21))), some (.inl a0), some (.inl a1), none, none, none, none, none]) (st1 := [.inr (.inr (some 21))]) rfl ?_
          refine X_gF (v := .inr (.inr (some 27))) rfl rfl rfl rfl ?_
          refine X_run 1 (i1 := 20) (L1 := [some (.inr (.inr (some 21))), some (.inl a0), some (.inl a1), none, none, none, none, none]) (st1 := [.inl a0, .inr (.inr (some 27))]) rfl ?_
          obtain ⟨hin, hw⟩ := hw
          refine X_aI rfl rfl hin ?_
          show X _ _ 21 [some (.inr (.inr (some 21))), some (.inl a0), some (.inl a1), none, none, none, none, none] [.inl (sA s 27 (Int32.toNatClampNeg a0))] (hp (pI s 21 0 (1 : Int32))) _
          refine X_run 2 (i1 := 23) (L1 := [some (.inr (.inr (some 21))), some (.inl a0), some (.inl a1), some (.inl (sA s 27 (Int32.toNatClampNeg a0))), none, none, none, none]) (st1 := [.inr (.inr (some 21))]) rfl ?_
          refine X_gF (v := .inr (.inr (some 22))) rfl rfl rfl rfl ?_
          refine X_run 1 (i1 := 25) (L1 := [some (.inr (.inr (some 21))), some (.inl a0), some (.inl a1), some (.inl (sA s 27 (Int32.toNatClampNeg a0))), none, none, none, none]) (st1 := [.inl (sA s 27 (Int32.toNatClampNeg a0)), .inr (.inr (some 22))]) rfl ?_
          obtain ⟨hin, hw⟩ := hw
          refine X_aI rfl rfl hin ?_
          show X _ _ 26 [some (.inr (.inr (some 21))), some (.inl a0), some (.inl a1), some (.inl (sA s 27 (Int32.toNatClampNeg a0))), none, none, none, none] [.inl (sA s 22 (Int32.toNatClampNeg (sA s 27 (Int32.toNatClampNeg a0))))] (hp (pI s 21 0 (1 : Int32))) _
          refine X_run 4 (i1 := cond (cn2 .ge (sA s 22 (Int32.toNatClampNeg (sA s 27 (Int32.toNatClampNeg a0)))) (11 : Int32)) 35 30) (L1 := [some (.inr (.inr (some 21))), some (.inl a0), some (.inl a1), some (.inl (sA s 27 (Int32.toNatClampNeg a0))), some (.inl (sA s 22 (Int32.toNatClampNeg (sA s 27 (Int32.toNatClampNeg a0))))), none, none, none]) (st1 := []) rfl ?_
          refine X_brq (fun hb => ?_) (fun hb => ?_)
          · have hw := hw.1 hb
            refine X_run 3 (i1 := cond (cn2 .ne (sA s 22 (Int32.toNatClampNeg (sA s 27 (Int32.toNatClampNeg a0)))) (16 : Int32)) 40 38) (L1 := [some (.inr (.inr (some 21))), some (.inl a0), some (.inl a1), some (.inl (sA s 27 (Int32.toNatClampNeg a0))), some (.inl (sA s 22 (Int32.toNatClampNeg (sA s 27 (Int32.toNatClampNeg a0))))), none, none, none]) (st1 := []) rfl ?_
            refine X_brq (fun hb => ?_) (fun hb => ?_)
            · have hw := hw.1 hb
              refine X_run 3 (i1 := cond (cn2 .le (sA s 22 (Int32.toNatClampNeg (sA s 27 (Int32.toNatClampNeg a0)))) (13 : Int32)) 45 43) (L1 := [some (.inr (.inr (some 21))), some (.inl a0), some (.inl a1), some (.inl (sA s 27 (Int32.toNatClampNeg a0))), some (.inl (sA s 22 (Int32.toNatClampNeg (sA s 27 (Int32.toNatClampNeg a0))))), none, none, none]) (st1 := []) rfl ?_
              refine X_brq (fun hb => ?_) (fun hb => ?_)
              · have hw := hw.1 hb
                refine X_run 1 (i1 := 46) (L1 := [some (.inr (.inr (some 21))), some (.inl a0), some (.inl a1), some (.inl (sA s 27 (Int32.toNatClampNeg a0))), some (.inl (sA s 22 (Int32.toNatClampNeg (sA s 27 (Int32.toNatClampNeg a0))))), none, none, none]) (st1 := [.inl (2 : Int32)]) rfl ?_
                refine X_mask [true, false, true, true, true, true, true, true] ?_
                exact ct_M_member_46 (pI s 21 0 (1 : Int32)) a1 (sA s 27 (Int32.toNatClampNeg a0)) (sA s 22 (Int32.toNatClampNeg (sA s 27 (Int32.toNatClampNeg a0)))) (2 : Int32) hw
              · have hw := hw.2 hb
                refine X_run 2 (i1 := 46) (L1 := [some (.inr (.inr (some 21))), some (.inl a0), some (.inl a1), some (.inl (sA s 27 (Int32.toNatClampNeg a0))), some (.inl (sA s 22 (Int32.toNatClampNeg (sA s 27 (Int32.toNatClampNeg a0))))), none, none, none]) (st1 := [.inl (3 : Int32)]) rfl ?_
                refine X_mask [true, false, true, true, true, true, true, true] ?_
                exact ct_M_member_46 (pI s 21 0 (1 : Int32)) a1 (sA s 27 (Int32.toNatClampNeg a0)) (sA s 22 (Int32.toNatClampNeg (sA s 27 (Int32.toNatClampNeg a0)))) (3 : Int32) hw
            · have hw := hw.2 hb
              refine X_run 2 (i1 := 46) (L1 := [some (.inr (.inr (some 21))), some (.inl a0), some (.inl a1), some (.inl (sA s 27 (Int32.toNatClampNeg a0))), some (.inl (sA s 22 (Int32.toNatClampNeg (sA s 27 (Int32.toNatClampNeg a0))))), none, none, none]) (st1 := [.inl (1 : Int32)]) rfl ?_
              refine X_mask [true, false, true, true, true, true, true, true] ?_
              exact ct_M_member_46 (pI s 21 0 (1 : Int32)) a1 (sA s 27 (Int32.toNatClampNeg a0)) (sA s 22 (Int32.toNatClampNeg (sA s 27 (Int32.toNatClampNeg a0)))) (1 : Int32) hw
          · have hw := hw.2 hb
            refine X_run 1 (i1 := 31) (L1 := [some (.inr (.inr (some 21))), some (.inl a0), some (.inl a1), some (.inl (sA s 27 (Int32.toNatClampNeg a0))), some (.inl (sA s 22 (Int32.toNatClampNeg (sA s 27 (Int32.toNatClampNeg a0))))), none, none, none]) (st1 := [.inr (.inr (some 21))]) rfl ?_
            refine X_gF (v := .inr (.inr (some 24))) rfl rfl rfl rfl ?_
            refine X_run 1 (i1 := 33) (L1 := [some (.inr (.inr (some 21))), some (.inl a0), some (.inl a1), some (.inl (sA s 27 (Int32.toNatClampNeg a0))), some (.inl (sA s 22 (Int32.toNatClampNeg (sA s 27 (Int32.toNatClampNeg a0))))), none, none, none]) (st1 := [.inl (sA s 27 (Int32.toNatClampNeg a0)), .inr (.inr (some 24))]) rfl ?_
            obtain ⟨hin, hw⟩ := hw
            refine X_aI rfl rfl hin ?_
            show X _ _ 34 [some (.inr (.inr (some 21))), some (.inl a0), some (.inl a1), some (.inl (sA s 27 (Int32.toNatClampNeg a0))), some (.inl (sA s 22 (Int32.toNatClampNeg (sA s 27 (Int32.toNatClampNeg a0))))), none, none, none] [.inl (sA s 24 (Int32.toNatClampNeg (sA s 27 (Int32.toNatClampNeg a0))))] (hp (pI s 21 0 (1 : Int32))) _
            refine X_run 1 (i1 := 46) (L1 := [some (.inr (.inr (some 21))), some (.inl a0), some (.inl a1), some (.inl (sA s 27 (Int32.toNatClampNeg a0))), some (.inl (sA s 22 (Int32.toNatClampNeg (sA s 27 (Int32.toNatClampNeg a0))))), none, none, none]) (st1 := [.inl (sA s 24 (Int32.toNatClampNeg (sA s 27 (Int32.toNatClampNeg a0))))]) rfl ?_
            refine X_mask [true, false, true, true, true, true, true, true] ?_
            exact ct_M_member_46 (pI s 21 0 (1 : Int32)) a1 (sA s 27 (Int32.toNatClampNeg a0)) (sA s 22 (Int32.toNatClampNeg (sA s 27 (Int32.toNatClampNeg a0)))) (sA s 24 (Int32.toNatClampNeg (sA s 27 (Int32.toNatClampNeg a0)))) hw
        · skip
          refine X_run 1 (i1 := 16) (L1 := [some (.inr (.inr (some 21))), some (.inl a0), some (.inl a1), none, none, none, none, none]) (st1 := [.inr (.inl (0 : Int64))]) rfl ?_
          exact X_lret rfl rfl qLs_i
def f_M_same (s : St) (a0 : Int32) (a1 : Int32) : Int32 × St := (cond (cn1 .lt a0) ((-1 : Int32), pI s 21 0 (0 : Int32)) (cond (cn2 .gt a0 (15 : Int32)) ((-1 : Int32), pI s 21 0 (0 : Int32)) (cond (cn1 .lt a1) ((-1 : Int32), pI s 21 0 (0 : Int32)) (cond (cn2 .le a1 (15 : Int32)) (cond (cn2 .ne (sA s 27 (Int32.toNatClampNeg a0)) (sA s 27 (Int32.toNatClampNeg a1))) ((0 : Int32), pI s 21 0 (0 : Int32)) ((1 : Int32), pI s 21 0 (0 : Int32))) ((-1 : Int32), pI s 21 0 (0 : Int32))))))
def w_M_same (s : St) (a0 : Int32) (a1 : Int32) : Prop := ((cn1 .lt a0) = true → True) ∧ ((cn1 .lt a0) = false → ((cn2 .gt a0 (15 : Int32)) = true → True) ∧ ((cn2 .gt a0 (15 : Int32)) = false → ((cn1 .lt a1) = true → True) ∧ ((cn1 .lt a1) = false → ((cn2 .le a1 (15 : Int32)) = true → (vp_in a0 16 ∧ (vp_in a1 16 ∧ True))) ∧ ((cn2 .le a1 (15 : Int32)) = false → True))))
theorem c_M_same {d : Nat} (s : St) (a0 : Int32) (a1 : Int32) (hw : w_M_same s a0 a1) : X m_M_same (d) 0 (entL 3 [.inr (.inr (some 21)), .inl a0, .inl a1]) [] (hp s) (qIs (f_M_same s a0 a1)) := by
  unfold f_M_same
  unfold w_M_same at hw
  refine X_run 2 (i1 := 2) (L1 := [some (.inr (.inr (some 21))), some (.inl a0), some (.inl a1)]) (st1 := [.inl (0 : Int32), .inr (.inr (some 21))]) rfl ?_
  refine X_pI rfl rfl rfl rfl ?_
  refine X_run 2 (i1 := cond (cn1 .lt a0) 13 5) (L1 := [some (.inr (.inr (some 21))), some (.inl a0), some (.inl a1)]) (st1 := []) rfl ?_
  refine X_brq (fun hb => ?_) (fun hb => ?_)
  · skip
    refine X_run 1 (i1 := 14) (L1 := [some (.inr (.inr (some 21))), some (.inl a0), some (.inl a1)]) (st1 := [.inl (-1 : Int32)]) rfl ?_
    exact X_iret rfl rfl qIs_i
  · have hw := hw.2 hb
    refine X_run 3 (i1 := cond (cn2 .gt a0 (15 : Int32)) 13 8) (L1 := [some (.inr (.inr (some 21))), some (.inl a0), some (.inl a1)]) (st1 := []) rfl ?_
    refine X_brq (fun hb => ?_) (fun hb => ?_)
    · skip
      refine X_run 1 (i1 := 14) (L1 := [some (.inr (.inr (some 21))), some (.inl a0), some (.inl a1)]) (st1 := [.inl (-1 : Int32)]) rfl ?_
      exact X_iret rfl rfl qIs_i
    · have hw := hw.2 hb
      refine X_run 2 (i1 := cond (cn1 .lt a1) 13 10) (L1 := [some (.inr (.inr (some 21))), some (.inl a0), some (.inl a1)]) (st1 := []) rfl ?_
      refine X_brq (fun hb => ?_) (fun hb => ?_)
      · skip
        refine X_run 1 (i1 := 14) (L1 := [some (.inr (.inr (some 21))), some (.inl a0), some (.inl a1)]) (st1 := [.inl (-1 : Int32)]) rfl ?_
        exact X_iret rfl rfl qIs_i
      · have hw := hw.2 hb
        refine X_run 3 (i1 := cond (cn2 .le a1 (15 : Int32)) 15 13) (L1 := [some (.inr (.inr (some 21))), some (.inl a0), some (.inl a1)]) (st1 := []) rfl ?_
        refine X_brq (fun hb => ?_) (fun hb => ?_)
        · have hw := hw.1 hb
          refine X_run 1 (i1 := 16) (L1 := [some (.inr (.inr (some 21))), some (.inl a0), some (.inl a1)]) (st1 := [.inr (.inr (some 21))]) rfl ?_
          refine X_gF (v := .inr (.inr (some 27))) rfl rfl rfl rfl ?_
          refine X_run 1 (i1 := 18) (L1 := [some (.inr (.inr (some 21))), some (.inl a0), some (.inl a1)]) (st1 := [.inl a0, .inr (.inr (some 27))]) rfl ?_
          obtain ⟨hin, hw⟩ := hw
          refine X_aI rfl rfl hin ?_
          show X _ _ 19 [some (.inr (.inr (some 21))), some (.inl a0), some (.inl a1)] [.inl (sA s 27 (Int32.toNatClampNeg a0))] (hp (pI s 21 0 (0 : Int32))) _
          refine X_run 1 (i1 := 20) (L1 := [some (.inr (.inr (some 21))), some (.inl a0), some (.inl a1)]) (st1 := [.inr (.inr (some 21)), .inl (sA s 27 (Int32.toNatClampNeg a0))]) rfl ?_
          refine X_gF (v := .inr (.inr (some 27))) rfl rfl rfl rfl ?_
          refine X_run 1 (i1 := 22) (L1 := [some (.inr (.inr (some 21))), some (.inl a0), some (.inl a1)]) (st1 := [.inl a1, .inr (.inr (some 27)), .inl (sA s 27 (Int32.toNatClampNeg a0))]) rfl ?_
          obtain ⟨hin, hw⟩ := hw
          refine X_aI rfl rfl hin ?_
          show X _ _ 23 [some (.inr (.inr (some 21))), some (.inl a0), some (.inl a1)] [.inl (sA s 27 (Int32.toNatClampNeg a1)), .inl (sA s 27 (Int32.toNatClampNeg a0))] (hp (pI s 21 0 (0 : Int32))) _
          refine X_run 1 (i1 := cond (cn2 .ne (sA s 27 (Int32.toNatClampNeg a0)) (sA s 27 (Int32.toNatClampNeg a1))) 26 24) (L1 := [some (.inr (.inr (some 21))), some (.inl a0), some (.inl a1)]) (st1 := []) rfl ?_
          refine X_brq (fun hb => ?_) (fun hb => ?_)
          · skip
            refine X_run 1 (i1 := 27) (L1 := [some (.inr (.inr (some 21))), some (.inl a0), some (.inl a1)]) (st1 := [.inl (0 : Int32)]) rfl ?_
            exact X_iret rfl rfl qIs_i
          · skip
            refine X_run 2 (i1 := 27) (L1 := [some (.inr (.inr (some 21))), some (.inl a0), some (.inl a1)]) (st1 := [.inl (1 : Int32)]) rfl ?_
            exact X_iret rfl rfl qIs_i
        · skip
          refine X_run 1 (i1 := 14) (L1 := [some (.inr (.inr (some 21))), some (.inl a0), some (.inl a1)]) (st1 := [.inl (-1 : Int32)]) rfl ?_
          exact X_iret rfl rfl qIs_i
