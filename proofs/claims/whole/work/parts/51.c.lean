def f_Pt_choices (a0 : Int32) : Int32 := (if a0 = (3 : Int32) then (7 : Int32) else (if a0 = (4 : Int32) then (16 : Int32) else (if a0 = (5 : Int32) then (16 : Int32) else (if a0 = (6 : Int32) then (16 : Int32) else (if a0 = (7 : Int32) then (8 : Int32) else (if a0 = (8 : Int32) then (10 : Int32) else (if a0 = (9 : Int32) then (6 : Int32) else (if a0 = (10 : Int32) then (16 : Int32) else (if a0 = (11 : Int32) then (16 : Int32) else (if a0 = (12 : Int32) then (16 : Int32) else (if a0 = (13 : Int32) then (16 : Int32) else (if a0 = (14 : Int32) then (16 : Int32) else (if a0 = (15 : Int32) then (16 : Int32) else (if a0 = (16 : Int32) then (16 : Int32) else (if a0 = (17 : Int32) then (16 : Int32) else (if a0 = (18 : Int32) then (20 : Int32) else (if a0 = (19 : Int32) then (16 : Int32) else (if a0 = (20 : Int32) then (16 : Int32) else (if a0 = (21 : Int32) then (16 : Int32) else (if a0 = (22 : Int32) then (16 : Int32) else (if a0 = (23 : Int32) then (16 : Int32) else (if a0 = (24 : Int32) then (16 : Int32) else (if a0 = (25 : Int32) then (16 : Int32) else (if a0 = (26 : Int32) then (16 : Int32) else (if a0 = (27 : Int32) then (4 : Int32) else (if a0 = (28 : Int32) then (4 : Int32) else (if a0 = (29 : Int32) then (6 : Int32) else (16 : Int32))))))))))))))))))))))))))))
theorem c_Pt_choices {d : Nat} {P : AP} (a0 : Int32) : X m_Pt_choices (d) 0 (entL 1 [.inl a0]) [] P (qI P (f_Pt_choices a0)) := by
  unfold f_Pt_choices
  refine X_run 1 (i1 := 1) (L1 := [some (.inl a0)]) (st1 := [.inl a0]) rfl ?_
  refine X_itq (fun h => ?_) (fun h1_0 => ?_)
  · refine X_tsk rfl h rfl ?_
    refine X_run 1 (i1 := 3) (L1 := [some (.inl a0)]) (st1 := [.inl (7 : Int32)]) rfl ?_
    exact X_iret rfl rfl ⟨rfl, rfl⟩
  refine X_itq (fun h => ?_) (fun h1_1 => ?_)
  · refine X_tsk rfl h rfl ?_
    refine X_run 1 (i1 := 19) (L1 := [some (.inl a0)]) (st1 := [.inl (16 : Int32)]) rfl ?_
    exact X_iret rfl rfl ⟨rfl, rfl⟩
  refine X_itq (fun h => ?_) (fun h1_2 => ?_)
  · refine X_tsk rfl h rfl ?_
    refine X_run 1 (i1 := 19) (L1 := [some (.inl a0)]) (st1 := [.inl (16 : Int32)]) rfl ?_
    exact X_iret rfl rfl ⟨rfl, rfl⟩
  refine X_itq (fun h => ?_) (fun h1_3 => ?_)
  · refine X_tsk rfl h rfl ?_
    refine X_run 1 (i1 := 19) (L1 := [some (.inl a0)]) (st1 := [.inl (16 : Int32)]) rfl ?_
    exact X_iret rfl rfl ⟨rfl, rfl⟩
  refine X_itq (fun h => ?_) (fun h1_4 => ?_)
  · refine X_tsk rfl h rfl ?_
    refine X_run 1 (i1 := 5) (L1 := [some (.inl a0)]) (st1 := [.inl (8 : Int32)]) rfl ?_
    exact X_iret rfl rfl ⟨rfl, rfl⟩
  refine X_itq (fun h => ?_) (fun h1_5 => ?_)
  · refine X_tsk rfl h rfl ?_
    refine X_run 1 (i1 := 7) (L1 := [some (.inl a0)]) (st1 := [.inl (10 : Int32)]) rfl ?_
    exact X_iret rfl rfl ⟨rfl, rfl⟩
  refine X_itq (fun h => ?_) (fun h1_6 => ?_)
  · refine X_tsk rfl h rfl ?_
    refine X_run 1 (i1 := 9) (L1 := [some (.inl a0)]) (st1 := [.inl (6 : Int32)]) rfl ?_
    exact X_iret rfl rfl ⟨rfl, rfl⟩
  refine X_itq (fun h => ?_) (fun h1_7 => ?_)
  · refine X_tsk rfl h rfl ?_
    refine X_run 1 (i1 := 19) (L1 := [some (.inl a0)]) (st1 := [.inl (16 : Int32)]) rfl ?_
    exact X_iret rfl rfl ⟨rfl, rfl⟩
  refine X_itq (fun h => ?_) (fun h1_8 => ?_)
  · refine X_tsk rfl h rfl ?_
    refine X_run 1 (i1 := 19) (L1 := [some (.inl a0)]) (st1 := [.inl (16 : Int32)]) rfl ?_
    exact X_iret rfl rfl ⟨rfl, rfl⟩
  refine X_itq (fun h => ?_) (fun h1_9 => ?_)
  · refine X_tsk rfl h rfl ?_
    refine X_run 1 (i1 := 19) (L1 := [some (.inl a0)]) (st1 := [.inl (16 : Int32)]) rfl ?_
    exact X_iret rfl rfl ⟨rfl, rfl⟩
  refine X_itq (fun h => ?_) (fun h1_10 => ?_)
  · refine X_tsk rfl h rfl ?_
    refine X_run 1 (i1 := 19) (L1 := [some (.inl a0)]) (st1 := [.inl (16 : Int32)]) rfl ?_
    exact X_iret rfl rfl ⟨rfl, rfl⟩
  refine X_itq (fun h => ?_) (fun h1_11 => ?_)
  · refine X_tsk rfl h rfl ?_
    refine X_run 1 (i1 := 19) (L1 := [some (.inl a0)]) (st1 := [.inl (16 : Int32)]) rfl ?_
    exact X_iret rfl rfl ⟨rfl, rfl⟩
  refine X_itq (fun h => ?_) (fun h1_12 => ?_)
  · refine X_tsk rfl h rfl ?_
    refine X_run 1 (i1 := 19) (L1 := [some (.inl a0)]) (st1 := [.inl (16 : Int32)]) rfl ?_
    exact X_iret rfl rfl ⟨rfl, rfl⟩
  refine X_itq (fun h => ?_) (fun h1_13 => ?_)
  · refine X_tsk rfl h rfl ?_
    refine X_run 1 (i1 := 19) (L1 := [some (.inl a0)]) (st1 := [.inl (16 : Int32)]) rfl ?_
    exact X_iret rfl rfl ⟨rfl, rfl⟩
  refine X_itq (fun h => ?_) (fun h1_14 => ?_)
  · refine X_tsk rfl h rfl ?_
    refine X_run 1 (i1 := 19) (L1 := [some (.inl a0)]) (st1 := [.inl (16 : Int32)]) rfl ?_
    exact X_iret rfl rfl ⟨rfl, rfl⟩
  refine X_itq (fun h => ?_) (fun h1_15 => ?_)
  · refine X_tsk rfl h rfl ?_
    refine X_run 1 (i1 := 11) (L1 := [some (.inl a0)]) (st1 := [.inl (20 : Int32)]) rfl ?_
    exact X_iret rfl rfl ⟨rfl, rfl⟩
  refine X_itq (fun h => ?_) (fun h1_16 => ?_)
  · refine X_tsk rfl h rfl ?_
    refine X_run 1 (i1 := 19) (L1 := [some (.inl a0)]) (st1 := [.inl (16 : Int32)]) rfl ?_
    exact X_iret rfl rfl ⟨rfl, rfl⟩
  refine X_itq (fun h => ?_) (fun h1_17 => ?_)
  · refine X_tsk rfl h rfl ?_
    refine X_run 1 (i1 := 19) (L1 := [some (.inl a0)]) (st1 := [.inl (16 : Int32)]) rfl ?_
    exact X_iret rfl rfl ⟨rfl, rfl⟩
  refine X_itq (fun h => ?_) (fun h1_18 => ?_)
  · refine X_tsk rfl h rfl ?_
    refine X_run 1 (i1 := 19) (L1 := [some (.inl a0)]) (st1 := [.inl (16 : Int32)]) rfl ?_
    exact X_iret rfl rfl ⟨rfl, rfl⟩
  refine X_itq (fun h => ?_) (fun h1_19 => ?_)
  · refine X_tsk rfl h rfl ?_
    refine X_run 1 (i1 := 19) (L1 := [some (.inl a0)]) (st1 := [.inl (16 : Int32)]) rfl ?_
    exact X_iret rfl rfl ⟨rfl, rfl⟩
  refine X_itq (fun h => ?_) (fun h1_20 => ?_)
  · refine X_tsk rfl h rfl ?_
    refine X_run 1 (i1 := 19) (L1 := [some (.inl a0)]) (st1 := [.inl (16 : Int32)]) rfl ?_
    exact X_iret rfl rfl ⟨rfl, rfl⟩
  refine X_itq (fun h => ?_) (fun h1_21 => ?_)
  · refine X_tsk rfl h rfl ?_
    refine X_run 1 (i1 := 19) (L1 := [some (.inl a0)]) (st1 := [.inl (16 : Int32)]) rfl ?_
    exact X_iret rfl rfl ⟨rfl, rfl⟩
  refine X_itq (fun h => ?_) (fun h1_22 => ?_)
  · refine X_tsk rfl h rfl ?_
    refine X_run 1 (i1 := 19) (L1 := [some (.inl a0)]) (st1 := [.inl (16 : Int32)]) rfl ?_
    exact X_iret rfl rfl ⟨rfl, rfl⟩
  refine X_itq (fun h => ?_) (fun h1_23 => ?_)
  · refine X_tsk rfl h rfl ?_
    refine X_run 1 (i1 := 19) (L1 := [some (.inl a0)]) (st1 := [.inl (16 : Int32)]) rfl ?_
    exact X_iret rfl rfl ⟨rfl, rfl⟩
  refine X_itq (fun h => ?_) (fun h1_24 => ?_)
  · refine X_tsk rfl h rfl ?_
    refine X_run 1 (i1 := 13) (L1 := [some (.inl a0)]) (st1 := [.inl (4 : Int32)]) rfl ?_
    exact X_iret rfl rfl ⟨rfl, rfl⟩
  refine X_itq (fun h => ?_) (fun h1_25 => ?_)
  · refine X_tsk rfl h rfl ?_
    refine X_run 1 (i1 := 15) (L1 := [some (.inl a0)]) (st1 := [.inl (4 : Int32)]) rfl ?_
    exact X_iret rfl rfl ⟨rfl, rfl⟩
  refine X_itq (fun h => ?_) (fun h1_26 => ?_)
  · refine X_tsk rfl h rfl ?_
    refine X_run 1 (i1 := 17) (L1 := [some (.inl a0)]) (st1 := [.inl (6 : Int32)]) rfl ?_
    exact X_iret rfl rfl ⟨rfl, rfl⟩
  refine X_tsd rfl ((sw_out (3) 27 (by decide) (by decide) (fun j hj => by
    match j, hj with
    | 0, _ => exact h1_0
    | 1, _ => exact h1_1
    | 2, _ => exact h1_2
    | 3, _ => exact h1_3
    | 4, _ => exact h1_4
    | 5, _ => exact h1_5
    | 6, _ => exact h1_6
    | 7, _ => exact h1_7
    | 8, _ => exact h1_8
    | 9, _ => exact h1_9
    | 10, _ => exact h1_10
    | 11, _ => exact h1_11
    | 12, _ => exact h1_12
    | 13, _ => exact h1_13
    | 14, _ => exact h1_14
    | 15, _ => exact h1_15
    | 16, _ => exact h1_16
    | 17, _ => exact h1_17
    | 18, _ => exact h1_18
    | 19, _ => exact h1_19
    | 20, _ => exact h1_20
    | 21, _ => exact h1_21
    | 22, _ => exact h1_22
    | 23, _ => exact h1_23
    | 24, _ => exact h1_24
    | 25, _ => exact h1_25
    | 26, _ => exact h1_26
    | j + 27, hj => exact absurd hj (by omega))).imp id (fun h => by omega)) ?_
  refine X_run 1 (i1 := 19) (L1 := [some (.inl a0)]) (st1 := [.inl (16 : Int32)]) rfl ?_
  exact X_iret rfl rfl ⟨rfl, rfl⟩
def f_Pt_operands (s : St) (a0 : Int32) : Option Nat := (if a0 = (1 : Int32) then (some (am_sa + 0)) else (if a0 = (2 : Int32) then (some (am_sa + 1)) else (if a0 = (3 : Int32) then (some (am_sa + 2)) else (if a0 = (4 : Int32) then (some (am_sa + 3)) else (if a0 = (5 : Int32) then (some (am_sa + 4)) else (if a0 = (6 : Int32) then (some (am_sa + 5)) else (if a0 = (7 : Int32) then (some (am_sa + 6)) else (if a0 = (8 : Int32) then (some (am_sa + 7)) else (if a0 = (9 : Int32) then (some (am_sa + 8)) else (if a0 = (10 : Int32) then (some (am_sa + 9)) else (if a0 = (11 : Int32) then (some (am_sa + 10)) else (if a0 = (12 : Int32) then (some (am_sa + 11)) else (if a0 = (13 : Int32) then (some (am_sa + 12)) else (if a0 = (14 : Int32) then (some (am_sa + 13)) else (if a0 = (15 : Int32) then (some (am_sa + 14)) else (if a0 = (16 : Int32) then (some (am_sa + 15)) else (if a0 = (17 : Int32) then (some (am_sa + 16)) else (if a0 = (18 : Int32) then (some (am_sa + 17)) else (if a0 = (19 : Int32) then (some (am_sa + 18)) else (if a0 = (20 : Int32) then (some (am_sa + 19)) else (if a0 = (21 : Int32) then (some (am_sa + 20)) else (if a0 = (22 : Int32) then (some (am_sa + 9)) else (if a0 = (23 : Int32) then (some (am_sa + 21)) else (if a0 = (24 : Int32) then (some (am_sa + 22)) else (if a0 = (25 : Int32) then (some (am_sa + 21)) else (if a0 = (26 : Int32) then (some (am_sa + 22)) else (if a0 = (27 : Int32) then (some (am_sa + 23)) else (if a0 = (28 : Int32) then (some (am_sa + 24)) else (if a0 = (29 : Int32) then (some (am_sa + 25)) else (if a0 = (30 : Int32) then (some (am_sa + 26)) else (if a0 = (31 : Int32) then (some (am_sa + 27)) else (if a0 = (32 : Int32) then (some (am_sa + 28)) else (if a0 = (33 : Int32) then (some (am_sa + 29)) else (if a0 = (34 : Int32) then (some (am_sa + 10)) else (some (am_sa + 30))))))))))))))))))))))))))))))))))))
def w_Pt_operands (s : St) (a0 : Int32) : Prop := True
theorem c_Pt_operands {d : Nat} (s : St) (a0 : Int32) (hw : w_Pt_operands s a0) : X m_Pt_operands (d) 0 (entL 1 [.inl a0]) [] (hp s) (qR (hp s) (f_Pt_operands s a0)) := by
  unfold f_Pt_operands
  unfold w_Pt_operands at hw
  refine X_run 1 (i1 := 1) (L1 := [some (.inl a0)]) (st1 := [.inl a0]) rfl ?_
  refine X_itq (fun h => ?_) (fun h1_0 => ?_)
  · refine X_tsk rfl h rfl ?_
    refine X_str rfl ?_
    exact X_aret rfl rfl qR_i
  refine X_itq (fun h => ?_) (fun h1_1 => ?_)
  · refine X_tsk rfl h rfl ?_
    refine X_str rfl ?_
    exact X_aret rfl rfl qR_i
  refine X_itq (fun h => ?_) (fun h1_2 => ?_)
  · refine X_tsk rfl h rfl ?_
    refine X_str rfl ?_
    exact X_aret rfl rfl qR_i
  refine X_itq (fun h => ?_) (fun h1_3 => ?_)
  · refine X_tsk rfl h rfl ?_
    refine X_str rfl ?_
    exact X_aret rfl rfl qR_i
  refine X_itq (fun h => ?_) (fun h1_4 => ?_)
  · refine X_tsk rfl h rfl ?_
    refine X_str rfl ?_
    exact X_aret rfl rfl qR_i
  refine X_itq (fun h => ?_) (fun h1_5 => ?_)
  · refine X_tsk rfl h rfl ?_
    refine X_str rfl ?_
    exact X_aret rfl rfl qR_i
  refine X_itq (fun h => ?_) (fun h1_6 => ?_)
  · refine X_tsk rfl h rfl ?_
    refine X_str rfl ?_
    exact X_aret rfl rfl qR_i
  refine X_itq (fun h => ?_) (fun h1_7 => ?_)
  · refine X_tsk rfl h rfl ?_
    refine X_str rfl ?_
    exact X_aret rfl rfl qR_i
  refine X_itq (fun h => ?_) (fun h1_8 => ?_)
  · refine X_tsk rfl h rfl ?_
    refine X_str rfl ?_
    exact X_aret rfl rfl qR_i
  refine X_itq (fun h => ?_) (fun h1_9 => ?_)
  · refine X_tsk rfl h rfl ?_
    refine X_str rfl ?_
    exact X_aret rfl rfl qR_i
  refine X_itq (fun h => ?_) (fun h1_10 => ?_)
  · refine X_tsk rfl h rfl ?_
    refine X_str rfl ?_
    exact X_aret rfl rfl qR_i
  refine X_itq (fun h => ?_) (fun h1_11 => ?_)
  · refine X_tsk rfl h rfl ?_
    refine X_str rfl ?_
    exact X_aret rfl rfl qR_i
  refine X_itq (fun h => ?_) (fun h1_12 => ?_)
  · refine X_tsk rfl h rfl ?_
    refine X_str rfl ?_
    exact X_aret rfl rfl qR_i
  refine X_itq (fun h => ?_) (fun h1_13 => ?_)
  · refine X_tsk rfl h rfl ?_
    refine X_str rfl ?_
    exact X_aret rfl rfl qR_i
  refine X_itq (fun h => ?_) (fun h1_14 => ?_)
  · refine X_tsk rfl h rfl ?_
    refine X_str rfl ?_
    exact X_aret rfl rfl qR_i
  refine X_itq (fun h => ?_) (fun h1_15 => ?_)
  · refine X_tsk rfl h rfl ?_
    refine X_str rfl ?_
    exact X_aret rfl rfl qR_i
  refine X_itq (fun h => ?_) (fun h1_16 => ?_)
  · refine X_tsk rfl h rfl ?_
    refine X_str rfl ?_
    exact X_aret rfl rfl qR_i
  refine X_itq (fun h => ?_) (fun h1_17 => ?_)
  · refine X_tsk rfl h rfl ?_
    refine X_str rfl ?_
    exact X_aret rfl rfl qR_i
  refine X_itq (fun h => ?_) (fun h1_18 => ?_)
  · refine X_tsk rfl h rfl ?_
    refine X_str rfl ?_
    exact X_aret rfl rfl qR_i
  refine X_itq (fun h => ?_) (fun h1_19 => ?_)
  · refine X_tsk rfl h rfl ?_
    refine X_str rfl ?_
    exact X_aret rfl rfl qR_i
  refine X_itq (fun h => ?_) (fun h1_20 => ?_)
  · refine X_tsk rfl h rfl ?_
    refine X_str rfl ?_
    exact X_aret rfl rfl qR_i
  refine X_itq (fun h => ?_) (fun h1_21 => ?_)
  · refine X_tsk rfl h rfl ?_
    refine X_str rfl ?_
    exact X_aret rfl rfl qR_i
  refine X_itq (fun h => ?_) (fun h1_22 => ?_)
  · refine X_tsk rfl h rfl ?_
    refine X_str rfl ?_
    exact X_aret rfl rfl qR_i
  refine X_itq (fun h => ?_) (fun h1_23 => ?_)
  · refine X_tsk rfl h rfl ?_
    refine X_str rfl ?_
    exact X_aret rfl rfl qR_i
  refine X_itq (fun h => ?_) (fun h1_24 => ?_)
  · refine X_tsk rfl h rfl ?_
    refine X_str rfl ?_
    exact X_aret rfl rfl qR_i
  refine X_itq (fun h => ?_) (fun h1_25 => ?_)
  · refine X_tsk rfl h rfl ?_
    refine X_str rfl ?_
    exact X_aret rfl rfl qR_i
  refine X_itq (fun h => ?_) (fun h1_26 => ?_)
  · refine X_tsk rfl h rfl ?_
    refine X_str rfl ?_
    exact X_aret rfl rfl qR_i
  refine X_itq (fun h => ?_) (fun h1_27 => ?_)
  · refine X_tsk rfl h rfl ?_
    refine X_str rfl ?_
    exact X_aret rfl rfl qR_i
  refine X_itq (fun h => ?_) (fun h1_28 => ?_)
  · refine X_tsk rfl h rfl ?_
    refine X_str rfl ?_
    exact X_aret rfl rfl qR_i
  refine X_itq (fun h => ?_) (fun h1_29 => ?_)
  · refine X_tsk rfl h rfl ?_
    refine X_str rfl ?_
    exact X_aret rfl rfl qR_i
  refine X_itq (fun h => ?_) (fun h1_30 => ?_)
  · refine X_tsk rfl h rfl ?_
    refine X_str rfl ?_
    exact X_aret rfl rfl qR_i
  refine X_itq (fun h => ?_) (fun h1_31 => ?_)
  · refine X_tsk rfl h rfl ?_
    refine X_str rfl ?_
    exact X_aret rfl rfl qR_i
  refine X_itq (fun h => ?_) (fun h1_32 => ?_)
  · refine X_tsk rfl h rfl ?_
    refine X_str rfl ?_
    exact X_aret rfl rfl qR_i
  refine X_itq (fun h => ?_) (fun h1_33 => ?_)
  · refine X_tsk rfl h rfl ?_
    refine X_str rfl ?_
    exact X_aret rfl rfl qR_i
  refine X_tsd rfl ((sw_out (1) 34 (by decide) (by decide) (fun j hj => by
    match j, hj with
    | 0, _ => exact h1_0
    | 1, _ => exact h1_1
    | 2, _ => exact h1_2
    | 3, _ => exact h1_3
    | 4, _ => exact h1_4
    | 5, _ => exact h1_5
    | 6, _ => exact h1_6
    | 7, _ => exact h1_7
    | 8, _ => exact h1_8
    | 9, _ => exact h1_9
    | 10, _ => exact h1_10
    | 11, _ => exact h1_11
    | 12, _ => exact h1_12
    | 13, _ => exact h1_13
    | 14, _ => exact h1_14
    | 15, _ => exact h1_15
    | 16, _ => exact h1_16
    | 17, _ => exact h1_17
    | 18, _ => exact h1_18
    | 19, _ => exact h1_19
    | 20, _ => exact h1_20
    | 21, _ => exact h1_21
    | 22, _ => exact h1_22
    | 23, _ => exact h1_23
    | 24, _ => exact h1_24
    | 25, _ => exact h1_25
    | 26, _ => exact h1_26
    | 27, _ => exact h1_27
    | 28, _ => exact h1_28
    | 29, _ => exact h1_29
    | 30, _ => exact h1_30
    | 31, _ => exact h1_31
    | 32, _ => exact h1_32
    | 33, _ => exact h1_33
    | j + 34, hj => exact absurd hj (by omega))).imp id (fun h => by omega)) ?_
  refine X_str rfl ?_
  exact X_aret rfl rfl qR_i
def f_Pt_greatest (s : St) (a0 : Int32) (a1 : Int32) (a2 : Int32) : Int32 := (cond (cn2 .ne a0 (104 : Int32)) (cond (cn2 .ne a0 (118 : Int32)) (cond (cn2 .ne a0 (102 : Int32)) (cond (cn1 .lt (sti (some (am_sa + 31)) a0)) (255 : Int32) (cond (cn2 .ge (sti (some (am_sa + 31)) a0) (6 : Int32)) (255 : Int32) (am_gt (Int32.toNatClampNeg (sti (some (am_sa + 31)) a0))))) (cond (cn2 .ne a2 (1 : Int32)) (cond (cn2 .ne a2 (3 : Int32)) (7 : Int32) (15 : Int32)) (3 : Int32))) (cond (cn2 .eq a2 (6 : Int32)) (3 : Int32) (cond (cn2 .ne a2 (7 : Int32)) (7 : Int32) (3 : Int32)))) ((f_Pt_choices a1) - (1 : Int32)))
def w_Pt_greatest (s : St) (a0 : Int32) (a1 : Int32) (a2 : Int32) : Prop := ((cn2 .ne a0 (104 : Int32)) = true → ((cn2 .ne a0 (118 : Int32)) = true → ((cn2 .ne a0 (102 : Int32)) = true → (sk (some (am_sa + 31)) ∧ ((cn1 .lt (sti (some (am_sa + 31)) a0)) = true → True) ∧ ((cn1 .lt (sti (some (am_sa + 31)) a0)) = false → (isG (sD s) ∧ ((cn2 .ge (sti (some (am_sa + 31)) a0) (6 : Int32)) = true → True) ∧ ((cn2 .ge (sti (some (am_sa + 31)) a0) (6 : Int32)) = false → (isG (sD s) ∧ (vp_in (sti (some (am_sa + 31)) a0) 6 ∧ True))))))) ∧ ((cn2 .ne a0 (102 : Int32)) = false → True)) ∧ ((cn2 .ne a0 (118 : Int32)) = false → True)) ∧ ((cn2 .ne a0 (104 : Int32)) = false → True)
theorem c_Pt_greatest {d : Nat} (s : St) (a0 : Int32) (a1 : Int32) (a2 : Int32) (hw : w_Pt_greatest s a0 a1 a2) : X m_Pt_greatest (d + 4) 0 (entL 4 [.inl a0, .inl a1, .inl a2]) [] (hp s) (qI (hp s) (f_Pt_greatest s a0 a1 a2)) := by
  unfold f_Pt_greatest
  unfold w_Pt_greatest at hw
  refine X_run 3 (i1 := cond (cn2 .ne a0 (104 : Int32)) 8 3) (L1 := [some (.inl a0), some (.inl a1), some (.inl a2), none]) (st1 := []) rfl ?_
  refine X_brq (fun hb => ?_) (fun hb => ?_)
  · have hw := hw.1 hb
    refine X_run 3 (i1 := cond (cn2 .ne a0 (118 : Int32)) 21 11) (L1 := [some (.inl a0), some (.inl a1), some (.inl a2), none]) (st1 := []) rfl ?_
    refine X_brq (fun hb => ?_) (fun hb => ?_)
    · have hw := hw.1 hb
      refine X_run 3 (i1 := cond (cn2 .ne a0 (102 : Int32)) 36 24) (L1 := [some (.inl a0), some (.inl a1), some (.inl a2), none]) (st1 := []) rfl ?_
      refine X_brq (fun hb => ?_) (fun hb => ?_)
      · have hw := hw.1 hb
        refine X_str rfl ?_
        refine X_run 1 (i1 := 38) (L1 := [some (.inl a0), some (.inl a1), some (.inl a2), none]) (st1 := [.inl a0, .inr (.inr (some (am_sa + 31)))]) rfl ?_
        obtain ⟨hc, hw⟩ := hw
        refine X_sindex rfl (Nat.le_of_ble_eq_true rfl) hc ?_
        refine X_run 3 (i1 := cond (cn1 .lt (sti (some (am_sa + 31)) a0)) 50 42) (L1 := [some (.inl a0), some (.inl a1), some (.inl a2), some (.inl (sti (some (am_sa + 31)) a0))]) (st1 := []) rfl ?_
        refine X_brq (fun hb => ?_) (fun hb => ?_)
        · skip
          refine X_run 1 (i1 := 51) (L1 := [some (.inl a0), some (.inl a1), some (.inl a2), some (.inl (sti (some (am_sa + 31)) a0))]) (st1 := [.inl (255 : Int32)]) rfl ?_
          exact X_iret rfl rfl qI_i
        · have hw := hw.2 hb
          refine X_run 1 (i1 := 43) (L1 := [some (.inl a0), some (.inl a1), some (.inl a2), some (.inl (sti (some (am_sa + 31)) a0))]) (st1 := [.inl (sti (some (am_sa + 31)) a0)]) rfl ?_
          refine X_gst rfl ?_
          obtain ⟨hc, hw⟩ := hw
          refine X_gN rfl hc ?_
          show X _ _ 45 [some (.inl a0), some (.inl a1), some (.inl a2), some (.inl (sti (some (am_sa + 31)) a0))] [.inl (6 : Int32), .inl (sti (some (am_sa + 31)) a0)] (hp s) _
          refine X_run 1 (i1 := cond (cn2 .ge (sti (some (am_sa + 31)) a0) (6 : Int32)) 50 46) (L1 := [some (.inl a0), some (.inl a1), some (.inl a2), some (.inl (sti (some (am_sa + 31)) a0))]) (st1 := []) rfl ?_
          refine X_brq (fun hb => ?_) (fun hb => ?_)
          · skip
            refine X_run 1 (i1 := 51) (L1 := [some (.inl a0), some (.inl a1), some (.inl a2), some (.inl (sti (some (am_sa + 31)) a0))]) (st1 := [.inl (255 : Int32)]) rfl ?_
            exact X_iret rfl rfl qI_i
          · have hw := hw.2 hb
            refine X_gst rfl ?_
            refine X_run 1 (i1 := 48) (L1 := [some (.inl a0), some (.inl a1), some (.inl a2), some (.inl (sti (some (am_sa + 31)) a0))]) (st1 := [.inl (sti (some (am_sa + 31)) a0), .inr (.inr (some am_ga))]) rfl ?_
            obtain ⟨hc, hw⟩ := hw
            obtain ⟨hin, hw⟩ := hw
            refine X_gG rfl hc hin ?_
            show X _ _ 49 [some (.inl a0), some (.inl a1), some (.inl a2), some (.inl (sti (some (am_sa + 31)) a0))] [.inl (am_gt (Int32.toNatClampNeg (sti (some (am_sa + 31)) a0)))] (hp s) _
            refine X_run 1 (i1 := 51) (L1 := [some (.inl a0), some (.inl a1), some (.inl a2), some (.inl (sti (some (am_sa + 31)) a0))]) (st1 := [.inl (am_gt (Int32.toNatClampNeg (sti (some (am_sa + 31)) a0)))]) rfl ?_
            exact X_iret rfl rfl qI_i
      · skip
        refine X_run 3 (i1 := cond (cn2 .ne a2 (1 : Int32)) 29 27) (L1 := [some (.inl a0), some (.inl a1), some (.inl a2), none]) (st1 := []) rfl ?_
        refine X_brq (fun hb => ?_) (fun hb => ?_)
        · skip
          refine X_run 3 (i1 := cond (cn2 .ne a2 (3 : Int32)) 34 32) (L1 := [some (.inl a0), some (.inl a1), some (.inl a2), none]) (st1 := []) rfl ?_
          refine X_brq (fun hb => ?_) (fun hb => ?_)
          · skip
            refine X_run 1 (i1 := 35) (L1 := [some (.inl a0), some (.inl a1), some (.inl a2), none]) (st1 := [.inl (7 : Int32)]) rfl ?_
            exact X_iret rfl rfl qI_i
          · skip
            refine X_run 2 (i1 := 35) (L1 := [some (.inl a0), some (.inl a1), some (.inl a2), none]) (st1 := [.inl (15 : Int32)]) rfl ?_
            exact X_iret rfl rfl qI_i
        · skip
          refine X_run 2 (i1 := 35) (L1 := [some (.inl a0), some (.inl a1), some (.inl a2), none]) (st1 := [.inl (3 : Int32)]) rfl ?_
          exact X_iret rfl rfl qI_i
    · skip
      refine X_run 3 (i1 := cond (cn2 .eq a2 (6 : Int32)) 17 14) (L1 := [some (.inl a0), some (.inl a1), some (.inl a2), none]) (st1 := []) rfl ?_
      refine X_brq (fun hb => ?_) (fun hb => ?_)
      · skip
        refine X_run 2 (i1 := 20) (L1 := [some (.inl a0), some (.inl a1), some (.inl a2), none]) (st1 := [.inl (3 : Int32)]) rfl ?_
        exact X_iret rfl rfl qI_i
      · skip
        refine X_run 3 (i1 := cond (cn2 .ne a2 (7 : Int32)) 19 17) (L1 := [some (.inl a0), some (.inl a1), some (.inl a2), none]) (st1 := []) rfl ?_
        refine X_brq (fun hb => ?_) (fun hb => ?_)
        · skip
          refine X_run 1 (i1 := 20) (L1 := [some (.inl a0), some (.inl a1), some (.inl a2), none]) (st1 := [.inl (7 : Int32)]) rfl ?_
          exact X_iret rfl rfl qI_i
        · skip
          refine X_run 2 (i1 := 20) (L1 := [some (.inl a0), some (.inl a1), some (.inl a2), none]) (st1 := [.inl (3 : Int32)]) rfl ?_
          exact X_iret rfl rfl qI_i
  · skip
    refine X_run 1 (i1 := 4) (L1 := [some (.inl a0), some (.inl a1), some (.inl a2), none]) (st1 := [.inl a1]) rfl ?_
    refine X_calls m_Pt_choices (As := [.inl a1]) (st := []) ok_Pt_choices rfl rfl rfl (Nat.le_of_ble_eq_true rfl) (Nat.le_of_ble_eq_true rfl) (c_Pt_choices (d := d + 3) a1) ?_
    rintro _ _ ⟨rfl, rfl⟩
    show X _ _ 5 [some (.inl a0), some (.inl a1), some (.inl a2), none] [.inl (f_Pt_choices a1)] (hp s) _
    refine X_run 2 (i1 := 7) (L1 := [some (.inl a0), some (.inl a1), some (.inl a2), none]) (st1 := [.inl ((f_Pt_choices a1) - (1 : Int32))]) rfl ?_
    exact X_iret rfl rfl qI_i
def f_Pt_parts (a0 : Int32) : Int32 := (cond (cn2 .ne a0 (30 : Int32)) (cond (cn2 .ne a0 (31 : Int32)) (cond (cn2 .ne a0 (32 : Int32)) (0 : Int32) (3 : Int32)) (1 : Int32)) (2 : Int32))
theorem c_Pt_parts {d : Nat} {P : AP} (a0 : Int32) : X m_Pt_parts (d) 0 (entL 1 [.inl a0]) [] P (qI P (f_Pt_parts a0)) := by
  unfold f_Pt_parts
  refine X_run 3 (i1 := cond (cn2 .ne a0 (30 : Int32)) 5 3) (L1 := [some (.inl a0)]) (st1 := []) rfl ?_
  refine X_brq (fun hb2 => ?_) (fun hb2 => ?_)
  · refine X_run 3 (i1 := cond (cn2 .ne a0 (31 : Int32)) 10 8) (L1 := [some (.inl a0)]) (st1 := []) rfl ?_
    refine X_brq (fun hb7 => ?_) (fun hb7 => ?_)
    · refine X_run 3 (i1 := cond (cn2 .ne a0 (32 : Int32)) 15 13) (L1 := [some (.inl a0)]) (st1 := []) rfl ?_
      refine X_brq (fun hb12 => ?_) (fun hb12 => ?_)
      · refine X_run 1 (i1 := 16) (L1 := [some (.inl a0)]) (st1 := [.inl (0 : Int32)]) rfl ?_
        exact X_iret rfl rfl ⟨rfl, rfl⟩
      · refine X_run 2 (i1 := 16) (L1 := [some (.inl a0)]) (st1 := [.inl (3 : Int32)]) rfl ?_
        exact X_iret rfl rfl ⟨rfl, rfl⟩
    · refine X_run 2 (i1 := 16) (L1 := [some (.inl a0)]) (st1 := [.inl (1 : Int32)]) rfl ?_
      exact X_iret rfl rfl ⟨rfl, rfl⟩
  · refine X_run 2 (i1 := 16) (L1 := [some (.inl a0)]) (st1 := [.inl (2 : Int32)]) rfl ?_
    exact X_iret rfl rfl ⟨rfl, rfl⟩
def t_Pt_wrongOperand_45 (fu : Nat) (s : St) (v1 : Int32) (v5 : Int32) : Int32 := ((v1 + (1 : Int32)) + v5)
def w_Pt_wrongOperand_45 (fu : Nat) (s : St) (v1 : Int32) (v5 : Int32) : Prop := True
theorem ct_Pt_wrongOperand_45 {d : Nat} (fu : Nat) (s : St) (v1 : Int32) (v5 : Int32) (hw : w_Pt_wrongOperand_45 fu s v1 v5) : X m_Pt_wrongOperand (d + 5) 45 [none, some (.inl v1), none, none, none, some (.inl v5), none, none] [] (hp s) (qI (hp s) (t_Pt_wrongOperand_45 fu s v1 v5)) := by
  unfold t_Pt_wrongOperand_45
  unfold w_Pt_wrongOperand_45 at hw
  refine X_run 5 (i1 := 50) (L1 := [none, some (.inl v1), none, none, none, some (.inl v5), none, none]) (st1 := [.inl ((v1 + (1 : Int32)) + v5)]) rfl ?_
  exact X_iret rfl rfl qI_i
abbrev LT_Pt_wrongOperand_16 : Type := (St → Int32 → Option Nat → Int32 → Int32 → Int32 → Int32) × (St → Int32 → Option Nat → Int32 → Int32 → Int32 → Int32)
abbrev LW_Pt_wrongOperand_16 : Type := (St → Int32 → Option Nat → Int32 → Int32 → Int32 → Prop) × (St → Int32 → Option Nat → Int32 → Int32 → Int32 → Prop)
def hl_Pt_wrongOperand_16 (d : Nat) (lp : LT_Pt_wrongOperand_16) (wlp : LW_Pt_wrongOperand_16) : Prop := (∀ (s : St) (v1 : Int32) (v2 : Option Nat) (v3 : Int32) (v4 : Int32) (v5 : Int32), wlp.1 s v1 v2 v3 v4 v5 → X m_Pt_wrongOperand d 16 [some (.inr (.inr (some 3))), some (.inl v1), some (.inr (.inr v2)), some (.inl v3), some (.inl v4), some (.inl v5), none, none] [] (hp s) (qI (hp s) (lp.1 s v1 v2 v3 v4 v5))) ∧ (∀ (s : St) (v1 : Int32) (v2 : Option Nat) (v3 : Int32) (v4 : Int32) (v5 : Int32), wlp.2 s v1 v2 v3 v4 v5 → X m_Pt_wrongOperand d 51 [some (.inr (.inr (some 3))), some (.inl v1), some (.inr (.inr v2)), some (.inl v3), some (.inl v4), some (.inl v5), none, none] [] (hp s) (qI (hp s) (lp.2 s v1 v2 v3 v4 v5)))
def b_Pt_wrongOperand_16 (fu : Nat) (lp : LT_Pt_wrongOperand_16) (s : St) (v1 : Int32) (v2 : Option Nat) (v3 : Int32) (v4 : Int32) (v5 : Int32) : Int32 := (cond (cn2 .ge v5 (stl v2)) (-1 : Int32) (cond (cn2 .gt ((sA s 3 (Int32.toNatClampNeg ((v1 + (1 : Int32)) + v5))) &&& (255 : Int32)) (f_Pt_greatest s (stc v2 v5) v3 v4)) (t_Pt_wrongOperand_45 fu s v1 v5) (cond (cn2 .ne (stc v2 v5) (119 : Int32)) (lp.2 s v1 v2 v3 v4 v5) (cond (cn1 .ne ((sA s 3 (Int32.toNatClampNeg ((v1 + (1 : Int32)) + v5))) &&& (255 : Int32))) (lp.2 s v1 v2 v3 v4 v5) (t_Pt_wrongOperand_45 fu s v1 v5)))))
def v_Pt_wrongOperand_16 (fu : Nat) (lp : LT_Pt_wrongOperand_16) (wlp : LW_Pt_wrongOperand_16) (s : St) (v1 : Int32) (v2 : Option Nat) (v3 : Int32) (v4 : Int32) (v5 : Int32) : Prop := (sk v2 ∧ ((cn2 .ge v5 (stl v2)) = true → True) ∧ ((cn2 .ge v5 (stl v2)) = false → (sk v2 ∧ (vp_in v5 (stn v2) ∧ (vp_in ((v1 + (1 : Int32)) + v5) 2000 ∧ (w_Pt_greatest s (stc v2 v5) v3 v4 ∧ ((cn2 .gt ((sA s 3 (Int32.toNatClampNeg ((v1 + (1 : Int32)) + v5))) &&& (255 : Int32)) (f_Pt_greatest s (stc v2 v5) v3 v4)) = true → (w_Pt_wrongOperand_45 fu s v1 v5)) ∧ ((cn2 .gt ((sA s 3 (Int32.toNatClampNeg ((v1 + (1 : Int32)) + v5))) &&& (255 : Int32)) (f_Pt_greatest s (stc v2 v5) v3 v4)) = false → ((cn2 .ne (stc v2 v5) (119 : Int32)) = true → (wlp.2 s v1 v2 v3 v4 v5)) ∧ ((cn2 .ne (stc v2 v5) (119 : Int32)) = false → ((cn1 .ne ((sA s 3 (Int32.toNatClampNeg ((v1 + (1 : Int32)) + v5))) &&& (255 : Int32))) = true → (wlp.2 s v1 v2 v3 v4 v5)) ∧ ((cn1 .ne ((sA s 3 (Int32.toNatClampNeg ((v1 + (1 : Int32)) + v5))) &&& (255 : Int32))) = false → (w_Pt_wrongOperand_45 fu s v1 v5))))))))))
theorem cb_Pt_wrongOperand_16 {d : Nat} (fu : Nat) {lp : LT_Pt_wrongOperand_16} {wlp : LW_Pt_wrongOperand_16} (hlp : hl_Pt_wrongOperand_16 (d + 5) lp wlp) (s : St) (v1 : Int32) (v2 : Option Nat) (v3 : Int32) (v4 : Int32) (v5 : Int32) (hw : v_Pt_wrongOperand_16 fu lp wlp s v1 v2 v3 v4 v5) : X m_Pt_wrongOperand (d + 5) 16 [some (.inr (.inr (some 3))), some (.inl v1), some (.inr (.inr v2)), some (.inl v3), some (.inl v4), some (.inl v5), none, none] [] (hp s) (qI (hp s) (b_Pt_wrongOperand_16 fu lp s v1 v2 v3 v4 v5)) := by
  unfold b_Pt_wrongOperand_16
  unfold v_Pt_wrongOperand_16 at hw
  refine X_run 2 (i1 := 18) (L1 := [some (.inr (.inr (some 3))), some (.inl v1), some (.inr (.inr v2)), some (.inl v3), some (.inl v4), some (.inl v5), none, none]) (st1 := [.inr (.inr v2), .inl v5]) rfl ?_
  obtain ⟨hc, hw⟩ := hw
  refine X_slen rfl (Nat.le_of_ble_eq_true rfl) hc ?_
  refine X_run 1 (i1 := cond (cn2 .ge v5 (stl v2)) 53 20) (L1 := [some (.inr (.inr (some 3))), some (.inl v1), some (.inr (.inr v2)), some (.inl v3), some (.inl v4), some (.inl v5), none, none]) (st1 := []) rfl ?_
  refine X_brq (fun hb => ?_) (fun hb => ?_)
  · skip
    refine X_run 1 (i1 := 54) (L1 := [some (.inr (.inr (some 3))), some (.inl v1), some (.inr (.inr v2)), some (.inl v3), some (.inl v4), some (.inl v5), none, none]) (st1 := [.inl (-1 : Int32)]) rfl ?_
    exact X_iret rfl rfl qI_i
  · have hw := hw.2 hb
    refine X_run 2 (i1 := 22) (L1 := [some (.inr (.inr (some 3))), some (.inl v1), some (.inr (.inr v2)), some (.inl v3), some (.inl v4), some (.inl v5), none, none]) (st1 := [.inl v5, .inr (.inr v2)]) rfl ?_
    obtain ⟨hc, hw⟩ := hw
    obtain ⟨hin, hw⟩ := hw
    refine X_schar rfl (Nat.le_of_ble_eq_true rfl) hc hin ?_
    refine X_run 7 (i1 := 30) (L1 := [some (.inr (.inr (some 3))), some (.inl v1), some (.inr (.inr v2)), some (.inl v3), some (.inl v4), some (.inl v5), some (.inl (stc v2 v5)), none]) (st1 := [.inl ((v1 + (1 : Int32)) + v5), .inr (.inr (some 3))]) rfl ?_
    obtain ⟨hin, hw⟩ := hw
    refine X_aY rfl rfl hin ?_
    show X _ _ 31 [some (.inr (.inr (some 3))), some (.inl v1), some (.inr (.inr v2)), some (.inl v3), some (.inl v4), some (.inl v5), some (.inl (stc v2 v5)), none] [.inl (sA s 3 (Int32.toNatClampNeg ((v1 + (1 : Int32)) + v5)))] (hp s) _
    refine X_run 7 (i1 := 38) (L1 := [some (.inr (.inr (some 3))), some (.inl v1), some (.inr (.inr v2)), some (.inl v3), some (.inl v4), some (.inl v5), some (.inl (stc v2 v5)), some (.inl ((sA s 3 (Int32.toNatClampNeg ((v1 + (1 : Int32)) + v5))) &&& (255 : Int32)))]) (st1 := [.inl v4, .inl v3, .inl (stc v2 v5), .inl ((sA s 3 (Int32.toNatClampNeg ((v1 + (1 : Int32)) + v5))) &&& (255 : Int32))]) rfl ?_
    obtain ⟨hc, hw⟩ := hw
    refine X_calls m_Pt_greatest (As := [.inl (stc v2 v5), .inl v3, .inl v4]) (st := [.inl ((sA s 3 (Int32.toNatClampNeg ((v1 + (1 : Int32)) + v5))) &&& (255 : Int32))]) ok_Pt_greatest rfl rfl rfl (Nat.le_of_ble_eq_true rfl) (Nat.le_of_ble_eq_true rfl) (c_Pt_greatest (d := d) s (stc v2 v5) v3 v4 hc) ?_
    rintro _ _ ⟨rfl, rfl⟩
    show X _ _ 39 [some (.inr (.inr (some 3))), some (.inl v1), some (.inr (.inr v2)), some (.inl v3), some (.inl v4), some (.inl v5), some (.inl (stc v2 v5)), some (.inl ((sA s 3 (Int32.toNatClampNeg ((v1 + (1 : Int32)) + v5))) &&& (255 : Int32)))] [.inl (f_Pt_greatest s (stc v2 v5) v3 v4), .inl ((sA s 3 (Int32.toNatClampNeg ((v1 + (1 : Int32)) + v5))) &&& (255 : Int32))] (hp s) _
    refine X_run 1 (i1 := cond (cn2 .gt ((sA s 3 (Int32.toNatClampNeg ((v1 + (1 : Int32)) + v5))) &&& (255 : Int32)) (f_Pt_greatest s (stc v2 v5) v3 v4)) 45 40) (L1 := [some (.inr (.inr (some 3))), some (.inl v1), some (.inr (.inr v2)), some (.inl v3), some (.inl v4), some (.inl v5), some (.inl (stc v2 v5)), some (.inl ((sA s 3 (Int32.toNatClampNeg ((v1 + (1 : Int32)) + v5))) &&& (255 : Int32)))]) (st1 := []) rfl ?_
    refine X_brq (fun hb => ?_) (fun hb => ?_)
    · have hw := hw.1 hb
      refine X_mask [false, true, false, false, false, true, false, false] ?_
      exact ct_Pt_wrongOperand_45 fu s v1 v5 hw
    · have hw := hw.2 hb
      refine X_run 3 (i1 := cond (cn2 .ne (stc v2 v5) (119 : Int32)) 51 43) (L1 := [some (.inr (.inr (some 3))), some (.inl v1), some (.inr (.inr v2)), some (.inl v3), some (.inl v4), some (.inl v5), some (.inl (stc v2 v5)), some (.inl ((sA s 3 (Int32.toNatClampNeg ((v1 + (1 : Int32)) + v5))) &&& (255 : Int32)))]) (st1 := []) rfl ?_
      refine X_brq (fun hb => ?_) (fun hb => ?_)
      · have hw := hw.1 hb
        refine X_mask [true, true, true, true, true, true, false, false] ?_
        exact hlp.2 s v1 v2 v3 v4 v5 hw
      · have hw := hw.2 hb
        refine X_run 2 (i1 := cond (cn1 .ne ((sA s 3 (Int32.toNatClampNeg ((v1 + (1 : Int32)) + v5))) &&& (255 : Int32))) 51 45) (L1 := [some (.inr (.inr (some 3))), some (.inl v1), some (.inr (.inr v2)), some (.inl v3), some (.inl v4), some (.inl v5), some (.inl (stc v2 v5)), some (.inl ((sA s 3 (Int32.toNatClampNeg ((v1 + (1 : Int32)) + v5))) &&& (255 : Int32)))]) (st1 := []) rfl ?_
        refine X_brq (fun hb => ?_) (fun hb => ?_)
        · have hw := hw.1 hb
          refine X_mask [true, true, true, true, true, true, false, false] ?_
          exact hlp.2 s v1 v2 v3 v4 v5 hw
        · have hw := hw.2 hb
          refine X_mask [false, true, false, false, false, true, false, false] ?_
          exact ct_Pt_wrongOperand_45 fu s v1 v5 hw
def b_Pt_wrongOperand_51 (fu : Nat) (lp : LT_Pt_wrongOperand_16) (s : St) (v1 : Int32) (v2 : Option Nat) (v3 : Int32) (v4 : Int32) (v5 : Int32) : Int32 := (lp.1 s v1 v2 v3 v4 (v5 + Int32.ofInt (1)))
def v_Pt_wrongOperand_51 (fu : Nat) (lp : LT_Pt_wrongOperand_16) (wlp : LW_Pt_wrongOperand_16) (s : St) (v1 : Int32) (v2 : Option Nat) (v3 : Int32) (v4 : Int32) (v5 : Int32) : Prop := (wlp.1 s v1 v2 v3 v4 (v5 + Int32.ofInt (1)))
theorem cb_Pt_wrongOperand_51 {d : Nat} (fu : Nat) {lp : LT_Pt_wrongOperand_16} {wlp : LW_Pt_wrongOperand_16} (hlp : hl_Pt_wrongOperand_16 (d + 5) lp wlp) (s : St) (v1 : Int32) (v2 : Option Nat) (v3 : Int32) (v4 : Int32) (v5 : Int32) (hw : v_Pt_wrongOperand_51 fu lp wlp s v1 v2 v3 v4 v5) : X m_Pt_wrongOperand (d + 5) 51 [some (.inr (.inr (some 3))), some (.inl v1), some (.inr (.inr v2)), some (.inl v3), some (.inl v4), some (.inl v5), none, none] [] (hp s) (qI (hp s) (b_Pt_wrongOperand_51 fu lp s v1 v2 v3 v4 v5)) := by
  unfold b_Pt_wrongOperand_51
  unfold v_Pt_wrongOperand_51 at hw
  refine X_run 2 (i1 := 16) (L1 := [some (.inr (.inr (some 3))), some (.inl v1), some (.inr (.inr v2)), some (.inl v3), some (.inl v4), some (.inl (v5 + Int32.ofInt (1))), none, none]) (st1 := []) rfl ?_
  exact hlp.1 s v1 v2 v3 v4 (v5 + Int32.ofInt (1)) hw
def T_Pt_wrongOperand_16 (fu : Nat) : Nat → LT_Pt_wrongOperand_16
  | 0 => (fun _ _ _ _ _ _ => 0, fun _ _ _ _ _ _ => 0)
  | n + 1 => (fun s v1 v2 v3 v4 v5 => b_Pt_wrongOperand_16 fu (T_Pt_wrongOperand_16 fu n) s v1 v2 v3 v4 v5, fun s v1 v2 v3 v4 v5 => b_Pt_wrongOperand_51 fu (T_Pt_wrongOperand_16 fu n) s v1 v2 v3 v4 v5)
def WT_Pt_wrongOperand_16 (fu : Nat) : Nat → LW_Pt_wrongOperand_16
  | 0 => (fun _ _ _ _ _ _ => False, fun _ _ _ _ _ _ => False)
  | n + 1 => (fun s v1 v2 v3 v4 v5 => v_Pt_wrongOperand_16 fu (T_Pt_wrongOperand_16 fu n) (WT_Pt_wrongOperand_16 fu n) s v1 v2 v3 v4 v5, fun s v1 v2 v3 v4 v5 => v_Pt_wrongOperand_51 fu (T_Pt_wrongOperand_16 fu n) (WT_Pt_wrongOperand_16 fu n) s v1 v2 v3 v4 v5)
theorem cT_Pt_wrongOperand_16 {d : Nat} (fu : Nat) : ∀ n : Nat, hl_Pt_wrongOperand_16 (d + 5) (T_Pt_wrongOperand_16 fu n) (WT_Pt_wrongOperand_16 fu n)
  | 0 => ⟨fun _ _ _ _ _ _ hw => hw.elim, fun _ _ _ _ _ _ hw => hw.elim⟩
  | n + 1 => ⟨fun s v1 v2 v3 v4 v5 hw => cb_Pt_wrongOperand_16 fu (cT_Pt_wrongOperand_16 fu n) s v1 v2 v3 v4 v5 hw, fun s v1 v2 v3 v4 v5 hw => cb_Pt_wrongOperand_51 fu (cT_Pt_wrongOperand_16 fu n) s v1 v2 v3 v4 v5 hw⟩
def f_Pt_wrongOperand (fu : Nat) (s : St) (a1 : Int32) (a2 : Option Nat) : Int32 := ((T_Pt_wrongOperand_16 fu fu).1 s a1 a2 ((sA s 3 (Int32.toNatClampNeg a1)) &&& (255 : Int32)) ((sA s 3 (Int32.toNatClampNeg (a1 + (1 : Int32)))) &&& (255 : Int32)) (0 : Int32))
def w_Pt_wrongOperand (fu : Nat) (s : St) (a1 : Int32) (a2 : Option Nat) : Prop := (vp_in a1 2000 ∧ (vp_in (a1 + (1 : Int32)) 2000 ∧ ((WT_Pt_wrongOperand_16 fu fu).1 s a1 a2 ((sA s 3 (Int32.toNatClampNeg a1)) &&& (255 : Int32)) ((sA s 3 (Int32.toNatClampNeg (a1 + (1 : Int32)))) &&& (255 : Int32)) (0 : Int32))))
theorem c_Pt_wrongOperand {d : Nat} (fu : Nat) (s : St) (a1 : Int32) (a2 : Option Nat) (hw : w_Pt_wrongOperand fu s a1 a2) : X m_Pt_wrongOperand (d + 5) 0 (entL 8 [.inr (.inr (some 3)), .inl a1, .inr (.inr a2)]) [] (hp s) (qI (hp s) (f_Pt_wrongOperand fu s a1 a2)) := by
  unfold f_Pt_wrongOperand
  unfold w_Pt_wrongOperand at hw
  refine X_run 2 (i1 := 2) (L1 := [some (.inr (.inr (some 3))), some (.inl a1), some (.inr (.inr a2)), none, none, none, none, none]) (st1 := [.inl a1, .inr (.inr (some 3))]) rfl ?_
  obtain ⟨hin, hw⟩ := hw
  refine X_aY rfl rfl hin ?_
  show X _ _ 3 [some (.inr (.inr (some 3))), some (.inl a1), some (.inr (.inr a2)), none, none, none, none, none] [.inl (sA s 3 (Int32.toNatClampNeg a1))] (hp s) _
  refine X_run 7 (i1 := 10) (L1 := [some (.inr (.inr (some 3))), some (.inl a1), some (.inr (.inr a2)), some (.inl ((sA s 3 (Int32.toNatClampNeg a1)) &&& (255 : Int32))), none, none, none, none]) (st1 := [.inl (a1 + (1 : Int32)), .inr (.inr (some 3))]) rfl ?_
  obtain ⟨hin, hw⟩ := hw
  refine X_aY rfl rfl hin ?_
  show X _ _ 11 [some (.inr (.inr (some 3))), some (.inl a1), some (.inr (.inr a2)), some (.inl ((sA s 3 (Int32.toNatClampNeg a1)) &&& (255 : Int32))), none, none, none, none] [.inl (sA s 3 (Int32.toNatClampNeg (a1 + (1 : Int32))))] (hp s) _
  refine X_run 5 (i1 := 16) (L1 := [some (.inr (.inr (some 3))), some (.inl a1), some (.inr (.inr a2)), some (.inl ((sA s 3 (Int32.toNatClampNeg a1)) &&& (255 : Int32))), some (.inl ((sA s 3 (Int32.toNatClampNeg (a1 + (1 : Int32)))) &&& (255 : Int32))), some (.inl (0 : Int32)), none, none]) (st1 := []) rfl ?_
  exact (cT_Pt_wrongOperand_16 fu fu).1 s a1 a2 ((sA s 3 (Int32.toNatClampNeg a1)) &&& (255 : Int32)) ((sA s 3 (Int32.toNatClampNeg (a1 + (1 : Int32)))) &&& (255 : Int32)) (0 : Int32) hw
abbrev G_fw : Type := (St → Int32 → Int32 → Int32 → Int32) × (St → Int32 → Int32 → Int32 → Int32 → Int32)
abbrev GW_fw : Type := (St → Int32 → Int32 → Int32 → Prop) × (St → Int32 → Int32 → Int32 → Int32 → Prop)
def hr_fw (d : Nat) (rec : G_fw) (wrec : GW_fw) : Prop := (∀ (s : St) (a1 : Int32) (a2 : Int32) (a3 : Int32), wrec.1 s a1 a2 a3 → X m_Pt_firstWrong d 0 (entL 12 [.inr (.inr (some 3)), .inl a1, .inl a2, .inl a3]) [] (hp s) (qI (hp s) (rec.1 s a1 a2 a3))) ∧ (∀ (s : St) (a1 : Int32) (a2 : Int32) (a3 : Int32) (a4 : Int32), wrec.2 s a1 a2 a3 a4 → X m_Pt_wrongPart d 0 (entL 11 [.inr (.inr (some 3)), .inl a1, .inl a2, .inl a3, .inl a4]) [] (hp s) (qI (hp s) (rec.2 s a1 a2 a3 a4)))
abbrev LT_Pt_firstWrong_4 : Type := (St → Int32 → Int32 → Int32 → Int32 → Int32) × (St → Int32 → Int32 → Int32 → Int32 → Option Nat → Int32 → Int32 → Int32) × (St → Int32 → Int32 → Int32 → Int32 → Int32 → Int32 → Int32) × (St → Int32 → Int32 → Int32 → Int32 → Int32 → Int32 → Int32 → Int32)
abbrev LW_Pt_firstWrong_4 : Type := (St → Int32 → Int32 → Int32 → Int32 → Prop) × (St → Int32 → Int32 → Int32 → Int32 → Option Nat → Int32 → Int32 → Prop) × (St → Int32 → Int32 → Int32 → Int32 → Int32 → Int32 → Prop) × (St → Int32 → Int32 → Int32 → Int32 → Int32 → Int32 → Int32 → Prop)
def hl_Pt_firstWrong_4 (d : Nat) (lp : LT_Pt_firstWrong_4) (wlp : LW_Pt_firstWrong_4) : Prop := (∀ (s : St) (v2 : Int32) (v3 : Int32) (v4 : Int32) (v5 : Int32), wlp.1 s v2 v3 v4 v5 → X m_Pt_firstWrong d 4 [some (.inr (.inr (some 3))), none, some (.inl v2), some (.inl v3), some (.inl v4), some (.inl v5), none, none, none, none, none, none] [] (hp s) (qI (hp s) (lp.1 s v2 v3 v4 v5))) ∧ (∀ (s : St) (v2 : Int32) (v3 : Int32) (v4 : Int32) (v5 : Int32) (v7 : Option Nat) (v8 : Int32) (v9 : Int32), wlp.2.1 s v2 v3 v4 v5 v7 v8 v9 → X m_Pt_firstWrong d 42 [some (.inr (.inr (some 3))), none, some (.inl v2), some (.inl v3), some (.inl v4), some (.inl v5), none, some (.inr (.inr v7)), some (.inl v8), some (.inl v9), none, none] [] (hp s) (qI (hp s) (lp.2.1 s v2 v3 v4 v5 v7 v8 v9))) ∧ (∀ (s : St) (v2 : Int32) (v3 : Int32) (v5 : Int32) (v8 : Int32) (v9 : Int32) (v10 : Int32), wlp.2.2.1 s v2 v3 v5 v8 v9 v10 → X m_Pt_firstWrong d 59 [some (.inr (.inr (some 3))), none, some (.inl v2), some (.inl v3), none, some (.inl v5), none, none, some (.inl v8), some (.inl v9), some (.inl v10), none] [] (hp s) (qI (hp s) (lp.2.2.1 s v2 v3 v5 v8 v9 v10))) ∧ (∀ (s : St) (v2 : Int32) (v3 : Int32) (v4 : Int32) (v5 : Int32) (v8 : Int32) (v9 : Int32) (v11 : Int32), wlp.2.2.2 s v2 v3 v4 v5 v8 v9 v11 → X m_Pt_firstWrong d 68 [some (.inr (.inr (some 3))), none, some (.inl v2), some (.inl v3), some (.inl v4), some (.inl v5), none, none, some (.inl v8), some (.inl v9), none, some (.inl v11)] [] (hp s) (qI (hp s) (lp.2.2.2 s v2 v3 v4 v5 v8 v9 v11)))
def b_Pt_firstWrong_4 (rec : G_fw) (fu : Nat) (lp : LT_Pt_firstWrong_4) (s : St) (v2 : Int32) (v3 : Int32) (v4 : Int32) (v5 : Int32) : Int32 := (cond (cn2 .ge v5 (200 : Int32)) (-1 : Int32) (cond (cn2 .ge v4 v2) (-1 : Int32) (cond (cn1 .ne (b2i (ste (f_Pt_operands s ((sA s 3 (Int32.toNatClampNeg v4)) &&& (255 : Int32)))))) v4 (cond (cn2 .gt ((v4 + (1 : Int32)) + (stl (f_Pt_operands s ((sA s 3 (Int32.toNatClampNeg v4)) &&& (255 : Int32))))) v2) v4 (cond (cn1 .le (f_Pt_parts ((sA s 3 (Int32.toNatClampNeg v4)) &&& (255 : Int32)))) (lp.2.1 s v2 v3 v4 v5 (f_Pt_operands s ((sA s 3 (Int32.toNatClampNeg v4)) &&& (255 : Int32))) (f_Pt_parts ((sA s 3 (Int32.toNatClampNeg v4)) &&& (255 : Int32))) ((v4 + (1 : Int32)) + (stl (f_Pt_operands s ((sA s 3 (Int32.toNatClampNeg v4)) &&& (255 : Int32)))))) (cond (cn2 .lt v3 (10 : Int32)) (lp.2.1 s v2 v3 v4 v5 (f_Pt_operands s ((sA s 3 (Int32.toNatClampNeg v4)) &&& (255 : Int32))) (f_Pt_parts ((sA s 3 (Int32.toNatClampNeg v4)) &&& (255 : Int32))) ((v4 + (1 : Int32)) + (stl (f_Pt_operands s ((sA s 3 (Int32.toNatClampNeg v4)) &&& (255 : Int32)))))) v4))))))
def v_Pt_firstWrong_4 (rec : G_fw) (wrec : GW_fw) (fu : Nat) (lp : LT_Pt_firstWrong_4) (wlp : LW_Pt_firstWrong_4) (s : St) (v2 : Int32) (v3 : Int32) (v4 : Int32) (v5 : Int32) : Prop := ((cn2 .ge v5 (200 : Int32)) = true → True) ∧ ((cn2 .ge v5 (200 : Int32)) = false → ((cn2 .ge v4 v2) = true → True) ∧ ((cn2 .ge v4 v2) = false → (vp_in v4 2000 ∧ (w_Pt_operands s ((sA s 3 (Int32.toNatClampNeg v4)) &&& (255 : Int32)) ∧ (sk (f_Pt_operands s ((sA s 3 (Int32.toNatClampNeg v4)) &&& (255 : Int32))) ∧ (sk (f_Pt_operands s ((sA s 3 (Int32.toNatClampNeg v4)) &&& (255 : Int32))) ∧ ((cn1 .ne (b2i (ste (f_Pt_operands s ((sA s 3 (Int32.toNatClampNeg v4)) &&& (255 : Int32)))))) = true → True) ∧ ((cn1 .ne (b2i (ste (f_Pt_operands s ((sA s 3 (Int32.toNatClampNeg v4)) &&& (255 : Int32)))))) = false → ((cn2 .gt ((v4 + (1 : Int32)) + (stl (f_Pt_operands s ((sA s 3 (Int32.toNatClampNeg v4)) &&& (255 : Int32))))) v2) = true → True) ∧ ((cn2 .gt ((v4 + (1 : Int32)) + (stl (f_Pt_operands s ((sA s 3 (Int32.toNatClampNeg v4)) &&& (255 : Int32))))) v2) = false → ((cn1 .le (f_Pt_parts ((sA s 3 (Int32.toNatClampNeg v4)) &&& (255 : Int32)))) = true → (wlp.2.1 s v2 v3 v4 v5 (f_Pt_operands s ((sA s 3 (Int32.toNatClampNeg v4)) &&& (255 : Int32))) (f_Pt_parts ((sA s 3 (Int32.toNatClampNeg v4)) &&& (255 : Int32))) ((v4 + (1 : Int32)) + (stl (f_Pt_operands s ((sA s 3 (Int32.toNatClampNeg v4)) &&& (255 : Int32))))))) ∧ ((cn1 .le (f_Pt_parts ((sA s 3 (Int32.toNatClampNeg v4)) &&& (255 : Int32)))) = false → ((cn2 .lt v3 (10 : Int32)) = true → (wlp.2.1 s v2 v3 v4 v5 (f_Pt_operands s ((sA s 3 (Int32.toNatClampNeg v4)) &&& (255 : Int32))) (f_Pt_parts ((sA s 3 (Int32.toNatClampNeg v4)) &&& (255 : Int32))) ((v4 + (1 : Int32)) + (stl (f_Pt_operands s ((sA s 3 (Int32.toNatClampNeg v4)) &&& (255 : Int32))))))) ∧ ((cn2 .lt v3 (10 : Int32)) = false → True))))))))))
theorem cb_Pt_firstWrong_4 {d : Nat} {rec : G_fw} {wrec : GW_fw} (hrec : hr_fw (d + 5) rec wrec) (fu : Nat) {lp : LT_Pt_firstWrong_4} {wlp : LW_Pt_firstWrong_4} (hlp : hl_Pt_firstWrong_4 (d + 6) lp wlp) (s : St) (v2 : Int32) (v3 : Int32) (v4 : Int32) (v5 : Int32) (hw : v_Pt_firstWrong_4 rec wrec fu lp wlp s v2 v3 v4 v5) : X m_Pt_firstWrong (d + 6) 4 [some (.inr (.inr (some 3))), none, some (.inl v2), some (.inl v3), some (.inl v4), some (.inl v5), none, none, none, none, none, none] [] (hp s) (qI (hp s) (b_Pt_firstWrong_4 rec fu lp s v2 v3 v4 v5)) := by
  unfold b_Pt_firstWrong_4
  unfold v_Pt_firstWrong_4 at hw
  refine X_run 3 (i1 := cond (cn2 .ge v5 (200 : Int32)) 87 7) (L1 := [some (.inr (.inr (some 3))), none, some (.inl v2), some (.inl v3), some (.inl v4), some (.inl v5), none, none, none, none, none, none]) (st1 := []) rfl ?_
  refine X_brq (fun hb => ?_) (fun hb => ?_)
  · skip
    refine X_run 1 (i1 := 88) (L1 := [some (.inr (.inr (some 3))), none, some (.inl v2), some (.inl v3), some (.inl v4), some (.inl v5), none, none, none, none, none, none]) (st1 := [.inl (-1 : Int32)]) rfl ?_
    exact X_iret rfl rfl qI_i
  · have hw := hw.2 hb
    refine X_run 3 (i1 := cond (cn2 .ge v4 v2) 87 10) (L1 := [some (.inr (.inr (some 3))), none, some (.inl v2), some (.inl v3), some (.inl v4), some (.inl v5), none, none, none, none, none, none]) (st1 := []) rfl ?_
    refine X_brq (fun hb => ?_) (fun hb => ?_)
    · skip
      refine X_run 1 (i1 := 88) (L1 := [some (.inr (.inr (some 3))), none, some (.inl v2), some (.inl v3), some (.inl v4), some (.inl v5), none, none, none, none, none, none]) (st1 := [.inl (-1 : Int32)]) rfl ?_
      exact X_iret rfl rfl qI_i
    · have hw := hw.2 hb
      refine X_run 2 (i1 := 12) (L1 := [some (.inr (.inr (some 3))), none, some (.inl v2), some (.inl v3), some (.inl v4), some (.inl v5), none, none, none, none, none, none]) (st1 := [.inl v4, .inr (.inr (some 3))]) rfl ?_
      obtain ⟨hin, hw⟩ := hw
      refine X_aY rfl rfl hin ?_
      show X _ _ 13 [some (.inr (.inr (some 3))), none, some (.inl v2), some (.inl v3), some (.inl v4), some (.inl v5), none, none, none, none, none, none] [.inl (sA s 3 (Int32.toNatClampNeg v4))] (hp s) _
      refine X_run 4 (i1 := 17) (L1 := [some (.inr (.inr (some 3))), none, some (.inl v2), some (.inl v3), some (.inl v4), some (.inl v5), some (.inl ((sA s 3 (Int32.toNatClampNeg v4)) &&& (255 : Int32))), none, none, none, none, none]) (st1 := [.inl ((sA s 3 (Int32.toNatClampNeg v4)) &&& (255 : Int32))]) rfl ?_
      obtain ⟨hc, hw⟩ := hw
      refine X_calls m_Pt_operands (As := [.inl ((sA s 3 (Int32.toNatClampNeg v4)) &&& (255 : Int32))]) (st := []) ok_Pt_operands rfl rfl rfl (Nat.le_of_ble_eq_true rfl) (Nat.le_of_ble_eq_true rfl) (c_Pt_operands (d := d + 5) s ((sA s 3 (Int32.toNatClampNeg v4)) &&& (255 : Int32)) hc) ?_
      rintro _ _ ⟨rfl, rfl⟩
      show X _ _ 18 [some (.inr (.inr (some 3))), none, some (.inl v2), some (.inl v3), some (.inl v4), some (.inl v5), some (.inl ((sA s 3 (Int32.toNatClampNeg v4)) &&& (255 : Int32))), none, none, none, none, none] [.inr (.inr (f_Pt_operands s ((sA s 3 (Int32.toNatClampNeg v4)) &&& (255 : Int32))))] (hp s) _
      refine X_run 2 (i1 := 20) (L1 := [some (.inr (.inr (some 3))), none, some (.inl v2), some (.inl v3), some (.inl v4), some (.inl v5), some (.inl ((sA s 3 (Int32.toNatClampNeg v4)) &&& (255 : Int32))), some (.inr (.inr (f_Pt_operands s ((sA s 3 (Int32.toNatClampNeg v4)) &&& (255 : Int32))))), none, none, none, none]) (st1 := [.inl ((sA s 3 (Int32.toNatClampNeg v4)) &&& (255 : Int32))]) rfl ?_
      refine X_calls m_Pt_parts (As := [.inl ((sA s 3 (Int32.toNatClampNeg v4)) &&& (255 : Int32))]) (st := []) ok_Pt_parts rfl rfl rfl (Nat.le_of_ble_eq_true rfl) (Nat.le_of_ble_eq_true rfl) (c_Pt_parts (d := d + 5) ((sA s 3 (Int32.toNatClampNeg v4)) &&& (255 : Int32))) ?_
      rintro _ _ ⟨rfl, rfl⟩
      show X _ _ 21 [some (.inr (.inr (some 3))), none, some (.inl v2), some (.inl v3), some (.inl v4), some (.inl v5), some (.inl ((sA s 3 (Int32.toNatClampNeg v4)) &&& (255 : Int32))), some (.inr (.inr (f_Pt_operands s ((sA s 3 (Int32.toNatClampNeg v4)) &&& (255 : Int32))))), none, none, none, none] [.inl (f_Pt_parts ((sA s 3 (Int32.toNatClampNeg v4)) &&& (255 : Int32)))] (hp s) _
      refine X_run 5 (i1 := 26) (L1 := [some (.inr (.inr (some 3))), none, some (.inl v2), some (.inl v3), some (.inl v4), some (.inl v5), some (.inl ((sA s 3 (Int32.toNatClampNeg v4)) &&& (255 : Int32))), some (.inr (.inr (f_Pt_operands s ((sA s 3 (Int32.toNatClampNeg v4)) &&& (255 : Int32))))), some (.inl (f_Pt_parts ((sA s 3 (Int32.toNatClampNeg v4)) &&& (255 : Int32)))), none, none, none]) (st1 := [.inr (.inr (f_Pt_operands s ((sA s 3 (Int32.toNatClampNeg v4)) &&& (255 : Int32)))), .inl (v4 + (1 : Int32))]) rfl ?_
      obtain ⟨hc, hw⟩ := hw
      refine X_slen rfl (Nat.le_of_ble_eq_true rfl) hc ?_
      refine X_run 3 (i1 := 30) (L1 := [some (.inr (.inr (some 3))), none, some (.inl v2), some (.inl v3), some (.inl v4), some (.inl v5), some (.inl ((sA s 3 (Int32.toNatClampNeg v4)) &&& (255 : Int32))), some (.inr (.inr (f_Pt_operands s ((sA s 3 (Int32.toNatClampNeg v4)) &&& (255 : Int32))))), some (.inl (f_Pt_parts ((sA s 3 (Int32.toNatClampNeg v4)) &&& (255 : Int32)))), some (.inl ((v4 + (1 : Int32)) + (stl (f_Pt_operands s ((sA s 3 (Int32.toNatClampNeg v4)) &&& (255 : Int32)))))), none, none]) (st1 := [.inr (.inr (f_Pt_operands s ((sA s 3 (Int32.toNatClampNeg v4)) &&& (255 : Int32))))]) rfl ?_
      obtain ⟨hc, hw⟩ := hw
      refine X_sempty rfl (Nat.le_of_ble_eq_true rfl) hc ?_
      refine X_run 1 (i1 := cond (cn1 .ne (b2i (ste (f_Pt_operands s ((sA s 3 (Int32.toNatClampNeg v4)) &&& (255 : Int32)))))) 40 32) (L1 := [some (.inr (.inr (some 3))), none, some (.inl v2), some (.inl v3), some (.inl v4), some (.inl v5), some (.inl ((sA s 3 (Int32.toNatClampNeg v4)) &&& (255 : Int32))), some (.inr (.inr (f_Pt_operands s ((sA s 3 (Int32.toNatClampNeg v4)) &&& (255 : Int32))))), some (.inl (f_Pt_parts ((sA s 3 (Int32.toNatClampNeg v4)) &&& (255 : Int32)))), some (.inl ((v4 + (1 : Int32)) + (stl (f_Pt_operands s ((sA s 3 (Int32.toNatClampNeg v4)) &&& (255 : Int32)))))), none, none]) (st1 := []) rfl ?_
      refine X_brq (fun hb => ?_) (fun hb => ?_)
      · skip
        refine X_run 1 (i1 := 41) (L1 := [some (.inr (.inr (some 3))), none, some (.inl v2), some (.inl v3), some (.inl v4), some (.inl v5), some (.inl ((sA s 3 (Int32.toNatClampNeg v4)) &&& (255 : Int32))), some (.inr (.inr (f_Pt_operands s ((sA s 3 (Int32.toNatClampNeg v4)) &&& (255 : Int32))))), some (.inl (f_Pt_parts ((sA s 3 (Int32.toNatClampNeg v4)) &&& (255 : Int32)))), some (.inl ((v4 + (1 : Int32)) + (stl (f_Pt_operands s ((sA s 3 (Int32.toNatClampNeg v4)) &&& (255 : Int32)))))), none, none]) (st1 := [.inl v4]) rfl ?_
        exact X_iret rfl rfl qI_i
      · have hw := hw.2 hb
        refine X_run 3 (i1 := cond (cn2 .gt ((v4 + (1 : Int32)) + (stl (f_Pt_operands s ((sA s 3 (Int32.toNatClampNeg v4)) &&& (255 : Int32))))) v2) 40 35) (L1 := [some (.inr (.inr (some 3))), none, some (.inl v2), some (.inl v3), some (.inl v4), some (.inl v5), some (.inl ((sA s 3 (Int32.toNatClampNeg v4)) &&& (255 : Int32))), some (.inr (.inr (f_Pt_operands s ((sA s 3 (Int32.toNatClampNeg v4)) &&& (255 : Int32))))), some (.inl (f_Pt_parts ((sA s 3 (Int32.toNatClampNeg v4)) &&& (255 : Int32)))), some (.inl ((v4 + (1 : Int32)) + (stl (f_Pt_operands s ((sA s 3 (Int32.toNatClampNeg v4)) &&& (255 : Int32)))))), none, none]) (st1 := []) rfl ?_
        refine X_brq (fun hb => ?_) (fun hb => ?_)
        · skip
          refine X_run 1 (i1 := 41) (L1 := [some (.inr (.inr (some 3))), none, some (.inl v2), some (.inl v3), some (.inl v4), some (.inl v5), some (.inl ((sA s 3 (Int32.toNatClampNeg v4)) &&& (255 : Int32))), some (.inr (.inr (f_Pt_operands s ((sA s 3 (Int32.toNatClampNeg v4)) &&& (255 : Int32))))), some (.inl (f_Pt_parts ((sA s 3 (Int32.toNatClampNeg v4)) &&& (255 : Int32)))), some (.inl ((v4 + (1 : Int32)) + (stl (f_Pt_operands s ((sA s 3 (Int32.toNatClampNeg v4)) &&& (255 : Int32)))))), none, none]) (st1 := [.inl v4]) rfl ?_
          exact X_iret rfl rfl qI_i
        · have hw := hw.2 hb
          refine X_run 2 (i1 := cond (cn1 .le (f_Pt_parts ((sA s 3 (Int32.toNatClampNeg v4)) &&& (255 : Int32)))) 42 37) (L1 := [some (.inr (.inr (some 3))), none, some (.inl v2), some (.inl v3), some (.inl v4), some (.inl v5), some (.inl ((sA s 3 (Int32.toNatClampNeg v4)) &&& (255 : Int32))), some (.inr (.inr (f_Pt_operands s ((sA s 3 (Int32.toNatClampNeg v4)) &&& (255 : Int32))))), some (.inl (f_Pt_parts ((sA s 3 (Int32.toNatClampNeg v4)) &&& (255 : Int32)))), some (.inl ((v4 + (1 : Int32)) + (stl (f_Pt_operands s ((sA s 3 (Int32.toNatClampNeg v4)) &&& (255 : Int32)))))), none, none]) (st1 := []) rfl ?_
          refine X_brq (fun hb => ?_) (fun hb => ?_)
          · have hw := hw.1 hb
            refine X_mask [true, true, true, true, true, true, false, true, true, true, true, true] ?_
            exact hlp.2.1 s v2 v3 v4 v5 (f_Pt_operands s ((sA s 3 (Int32.toNatClampNeg v4)) &&& (255 : Int32))) (f_Pt_parts ((sA s 3 (Int32.toNatClampNeg v4)) &&& (255 : Int32))) ((v4 + (1 : Int32)) + (stl (f_Pt_operands s ((sA s 3 (Int32.toNatClampNeg v4)) &&& (255 : Int32))))) hw
          · have hw := hw.2 hb
            refine X_run 3 (i1 := cond (cn2 .lt v3 (10 : Int32)) 42 40) (L1 := [some (.inr (.inr (some 3))), none, some (.inl v2), some (.inl v3), some (.inl v4), some (.inl v5), some (.inl ((sA s 3 (Int32.toNatClampNeg v4)) &&& (255 : Int32))), some (.inr (.inr (f_Pt_operands s ((sA s 3 (Int32.toNatClampNeg v4)) &&& (255 : Int32))))), some (.inl (f_Pt_parts ((sA s 3 (Int32.toNatClampNeg v4)) &&& (255 : Int32)))), some (.inl ((v4 + (1 : Int32)) + (stl (f_Pt_operands s ((sA s 3 (Int32.toNatClampNeg v4)) &&& (255 : Int32)))))), none, none]) (st1 := []) rfl ?_
            refine X_brq (fun hb => ?_) (fun hb => ?_)
            · have hw := hw.1 hb
              refine X_mask [true, true, true, true, true, true, false, true, true, true, true, true] ?_
              exact hlp.2.1 s v2 v3 v4 v5 (f_Pt_operands s ((sA s 3 (Int32.toNatClampNeg v4)) &&& (255 : Int32))) (f_Pt_parts ((sA s 3 (Int32.toNatClampNeg v4)) &&& (255 : Int32))) ((v4 + (1 : Int32)) + (stl (f_Pt_operands s ((sA s 3 (Int32.toNatClampNeg v4)) &&& (255 : Int32))))) hw
            · skip
              refine X_run 1 (i1 := 41) (L1 := [some (.inr (.inr (some 3))), none, some (.inl v2), some (.inl v3), some (.inl v4), some (.inl v5), some (.inl ((sA s 3 (Int32.toNatClampNeg v4)) &&& (255 : Int32))), some (.inr (.inr (f_Pt_operands s ((sA s 3 (Int32.toNatClampNeg v4)) &&& (255 : Int32))))), some (.inl (f_Pt_parts ((sA s 3 (Int32.toNatClampNeg v4)) &&& (255 : Int32)))), some (.inl ((v4 + (1 : Int32)) + (stl (f_Pt_operands s ((sA s 3 (Int32.toNatClampNeg v4)) &&& (255 : Int32)))))), none, none]) (st1 := [.inl v4]) rfl ?_
              exact X_iret rfl rfl qI_i
def b_Pt_firstWrong_42 (rec : G_fw) (fu : Nat) (lp : LT_Pt_firstWrong_4) (s : St) (v2 : Int32) (v3 : Int32) (v4 : Int32) (v5 : Int32) (v7 : Option Nat) (v8 : Int32) (v9 : Int32) : Int32 := (cond (cn2 .ne (f_Pt_wrongOperand fu s v4 v7) (-1 : Int32)) (lp.2.2.1 s v2 v3 v5 v8 v9 (f_Pt_wrongOperand fu s v4 v7)) (cond (cn1 .le v8) (lp.2.2.1 s v2 v3 v5 v8 v9 (f_Pt_wrongOperand fu s v4 v7)) (lp.2.2.1 s v2 v3 v5 v8 v9 (rec.2 s v9 v2 v8 v3))))
def v_Pt_firstWrong_42 (rec : G_fw) (wrec : GW_fw) (fu : Nat) (lp : LT_Pt_firstWrong_4) (wlp : LW_Pt_firstWrong_4) (s : St) (v2 : Int32) (v3 : Int32) (v4 : Int32) (v5 : Int32) (v7 : Option Nat) (v8 : Int32) (v9 : Int32) : Prop := (w_Pt_wrongOperand fu s v4 v7 ∧ ((cn2 .ne (f_Pt_wrongOperand fu s v4 v7) (-1 : Int32)) = true → (wlp.2.2.1 s v2 v3 v5 v8 v9 (f_Pt_wrongOperand fu s v4 v7))) ∧ ((cn2 .ne (f_Pt_wrongOperand fu s v4 v7) (-1 : Int32)) = false → ((cn1 .le v8) = true → (wlp.2.2.1 s v2 v3 v5 v8 v9 (f_Pt_wrongOperand fu s v4 v7))) ∧ ((cn1 .le v8) = false → (wrec.2 s v9 v2 v8 v3 ∧ (wlp.2.2.1 s v2 v3 v5 v8 v9 (rec.2 s v9 v2 v8 v3))))))
theorem cb_Pt_firstWrong_42 {d : Nat} {rec : G_fw} {wrec : GW_fw} (hrec : hr_fw (d + 5) rec wrec) (fu : Nat) {lp : LT_Pt_firstWrong_4} {wlp : LW_Pt_firstWrong_4} (hlp : hl_Pt_firstWrong_4 (d + 6) lp wlp) (s : St) (v2 : Int32) (v3 : Int32) (v4 : Int32) (v5 : Int32) (v7 : Option Nat) (v8 : Int32) (v9 : Int32) (hw : v_Pt_firstWrong_42 rec wrec fu lp wlp s v2 v3 v4 v5 v7 v8 v9) : X m_Pt_firstWrong (d + 6) 42 [some (.inr (.inr (some 3))), none, some (.inl v2), some (.inl v3), some (.inl v4), some (.inl v5), none, some (.inr (.inr v7)), some (.inl v8), some (.inl v9), none, none] [] (hp s) (qI (hp s) (b_Pt_firstWrong_42 rec fu lp s v2 v3 v4 v5 v7 v8 v9)) := by
  unfold b_Pt_firstWrong_42
  unfold v_Pt_firstWrong_42 at hw
  refine X_run 3 (i1 := 45) (L1 := [some (.inr (.inr (some 3))), none, some (.inl v2), some (.inl v3), some (.inl v4), some (.inl v5), none, some (.inr (.inr v7)), some (.inl v8), some (.inl v9), none, none]) (st1 := [.inr (.inr v7), .inl v4, .inr (.inr (some 3))]) rfl ?_
  obtain ⟨hc, hw⟩ := hw
  refine X_calls m_Pt_wrongOperand (As := [.inr (.inr (some 3)), .inl v4, .inr (.inr v7)]) (st := []) ok_Pt_wrongOperand rfl rfl rfl (Nat.le_of_ble_eq_true rfl) (Nat.le_of_ble_eq_true rfl) (c_Pt_wrongOperand (d := d) fu s v4 v7 hc) ?_
  rintro _ _ ⟨rfl, rfl⟩
  show X _ _ 46 [some (.inr (.inr (some 3))), none, some (.inl v2), some (.inl v3), some (.inl v4), some (.inl v5), none, some (.inr (.inr v7)), some (.inl v8), some (.inl v9), none, none] [.inl (f_Pt_wrongOperand fu s v4 v7)] (hp s) _
  refine X_run 4 (i1 := cond (cn2 .ne (f_Pt_wrongOperand fu s v4 v7) (-1 : Int32)) 59 50) (L1 := [some (.inr (.inr (some 3))), none, some (.inl v2), some (.inl v3), some (.inl v4), some (.inl v5), none, some (.inr (.inr v7)), some (.inl v8), some (.inl v9), some (.inl (f_Pt_wrongOperand fu s v4 v7)), none]) (st1 := []) rfl ?_
  refine X_brq (fun hb => ?_) (fun hb => ?_)
  · have hw := hw.1 hb
    refine X_mask [true, true, true, true, false, true, true, false, true, true, true, true] ?_
    exact hlp.2.2.1 s v2 v3 v5 v8 v9 (f_Pt_wrongOperand fu s v4 v7) hw
  · have hw := hw.2 hb
    refine X_run 2 (i1 := cond (cn1 .le v8) 59 52) (L1 := [some (.inr (.inr (some 3))), none, some (.inl v2), some (.inl v3), some (.inl v4), some (.inl v5), none, some (.inr (.inr v7)), some (.inl v8), some (.inl v9), some (.inl (f_Pt_wrongOperand fu s v4 v7)), none]) (st1 := []) rfl ?_
    refine X_brq (fun hb => ?_) (fun hb => ?_)
    · have hw := hw.1 hb
      refine X_mask [true, true, true, true, false, true, true, false, true, true, true, true] ?_
      exact hlp.2.2.1 s v2 v3 v5 v8 v9 (f_Pt_wrongOperand fu s v4 v7) hw
    · have hw := hw.2 hb
      refine X_run 5 (i1 := 57) (L1 := [some (.inr (.inr (some 3))), none, some (.inl v2), some (.inl v3), some (.inl v4), some (.inl v5), none, some (.inr (.inr v7)), some (.inl v8), some (.inl v9), some (.inl (f_Pt_wrongOperand fu s v4 v7)), none]) (st1 := [.inl v3, .inl v8, .inl v2, .inl v9, .inr (.inr (some 3))]) rfl ?_
      obtain ⟨hc, hw⟩ := hw
      refine X_calls m_Pt_wrongPart (As := [.inr (.inr (some 3)), .inl v9, .inl v2, .inl v8, .inl v3]) (st := []) ok_Pt_wrongPart rfl rfl rfl (Nat.le_of_ble_eq_true rfl) (Nat.le_of_ble_eq_true rfl) (hrec.2 s v9 v2 v8 v3 hc) ?_
      rintro _ _ ⟨rfl, rfl⟩
      show X _ _ 58 [some (.inr (.inr (some 3))), none, some (.inl v2), some (.inl v3), some (.inl v4), some (.inl v5), none, some (.inr (.inr v7)), some (.inl v8), some (.inl v9), some (.inl (f_Pt_wrongOperand fu s v4 v7)), none] [.inl (rec.2 s v9 v2 v8 v3)] (hp s) _
      refine X_run 1 (i1 := 59) (L1 := [some (.inr (.inr (some 3))), none, some (.inl v2), some (.inl v3), some (.inl v4), some (.inl v5), none, some (.inr (.inr v7)), some (.inl v8), some (.inl v9), some (.inl (rec.2 s v9 v2 v8 v3)), none]) (st1 := []) rfl ?_
      refine X_mask [true, true, true, true, false, true, true, false, true, true, true, true] ?_
      exact hlp.2.2.1 s v2 v3 v5 v8 v9 (rec.2 s v9 v2 v8 v3) hw
def b_Pt_firstWrong_59 (rec : G_fw) (fu : Nat) (lp : LT_Pt_firstWrong_4) (s : St) (v2 : Int32) (v3 : Int32) (v5 : Int32) (v8 : Int32) (v9 : Int32) (v10 : Int32) : Int32 := (cond (cn2 .eq v10 (-1 : Int32)) (lp.2.2.2 s v2 v3 v9 v5 v8 v9 (0 : Int32)) v10)
def v_Pt_firstWrong_59 (rec : G_fw) (wrec : GW_fw) (fu : Nat) (lp : LT_Pt_firstWrong_4) (wlp : LW_Pt_firstWrong_4) (s : St) (v2 : Int32) (v3 : Int32) (v5 : Int32) (v8 : Int32) (v9 : Int32) (v10 : Int32) : Prop := ((cn2 .eq v10 (-1 : Int32)) = true → (wlp.2.2.2 s v2 v3 v9 v5 v8 v9 (0 : Int32))) ∧ ((cn2 .eq v10 (-1 : Int32)) = false → True)
theorem cb_Pt_firstWrong_59 {d : Nat} {rec : G_fw} {wrec : GW_fw} (hrec : hr_fw (d + 5) rec wrec) (fu : Nat) {lp : LT_Pt_firstWrong_4} {wlp : LW_Pt_firstWrong_4} (hlp : hl_Pt_firstWrong_4 (d + 6) lp wlp) (s : St) (v2 : Int32) (v3 : Int32) (v5 : Int32) (v8 : Int32) (v9 : Int32) (v10 : Int32) (hw : v_Pt_firstWrong_59 rec wrec fu lp wlp s v2 v3 v5 v8 v9 v10) : X m_Pt_firstWrong (d + 6) 59 [some (.inr (.inr (some 3))), none, some (.inl v2), some (.inl v3), none, some (.inl v5), none, none, some (.inl v8), some (.inl v9), some (.inl v10), none] [] (hp s) (qI (hp s) (b_Pt_firstWrong_59 rec fu lp s v2 v3 v5 v8 v9 v10)) := by
  unfold b_Pt_firstWrong_59
  unfold v_Pt_firstWrong_59 at hw
  refine X_run 3 (i1 := cond (cn2 .eq v10 (-1 : Int32)) 64 62) (L1 := [some (.inr (.inr (some 3))), none, some (.inl v2), some (.inl v3), none, some (.inl v5), none, none, some (.inl v8), some (.inl v9), some (.inl v10), none]) (st1 := []) rfl ?_
  refine X_brq (fun hb => ?_) (fun hb => ?_)
  · have hw := hw.1 hb
    refine X_run 4 (i1 := 68) (L1 := [some (.inr (.inr (some 3))), none, some (.inl v2), some (.inl v3), some (.inl v9), some (.inl v5), none, none, some (.inl v8), some (.inl v9), some (.inl v10), some (.inl (0 : Int32))]) (st1 := []) rfl ?_
    refine X_mask [true, true, true, true, true, true, true, true, true, true, false, true] ?_
    exact hlp.2.2.2 s v2 v3 v9 v5 v8 v9 (0 : Int32) hw
  · skip
    refine X_run 1 (i1 := 63) (L1 := [some (.inr (.inr (some 3))), none, some (.inl v2), some (.inl v3), none, some (.inl v5), none, none, some (.inl v8), some (.inl v9), some (.inl v10), none]) (st1 := [.inl v10]) rfl ?_
    exact X_iret rfl rfl qI_i
def b_Pt_firstWrong_68 (rec : G_fw) (fu : Nat) (lp : LT_Pt_firstWrong_4) (s : St) (v2 : Int32) (v3 : Int32) (v4 : Int32) (v5 : Int32) (v8 : Int32) (v9 : Int32) (v11 : Int32) : Int32 := (cond (cn2 .ge v11 v8) (lp.1 s v2 v3 v4 (v5 + Int32.ofInt (1))) (lp.2.2.2 s v2 v3 (v4 + ((sA s 3 (Int32.toNatClampNeg ((v9 - v8) + v11))) &&& (255 : Int32))) v5 v8 v9 (v11 + Int32.ofInt (1))))
def v_Pt_firstWrong_68 (rec : G_fw) (wrec : GW_fw) (fu : Nat) (lp : LT_Pt_firstWrong_4) (wlp : LW_Pt_firstWrong_4) (s : St) (v2 : Int32) (v3 : Int32) (v4 : Int32) (v5 : Int32) (v8 : Int32) (v9 : Int32) (v11 : Int32) : Prop := ((cn2 .ge v11 v8) = true → (wlp.1 s v2 v3 v4 (v5 + Int32.ofInt (1)))) ∧ ((cn2 .ge v11 v8) = false → (vp_in ((v9 - v8) + v11) 2000 ∧ (wlp.2.2.2 s v2 v3 (v4 + ((sA s 3 (Int32.toNatClampNeg ((v9 - v8) + v11))) &&& (255 : Int32))) v5 v8 v9 (v11 + Int32.ofInt (1)))))
theorem cb_Pt_firstWrong_68 {d : Nat} {rec : G_fw} {wrec : GW_fw} (hrec : hr_fw (d + 5) rec wrec) (fu : Nat) {lp : LT_Pt_firstWrong_4} {wlp : LW_Pt_firstWrong_4} (hlp : hl_Pt_firstWrong_4 (d + 6) lp wlp) (s : St) (v2 : Int32) (v3 : Int32) (v4 : Int32) (v5 : Int32) (v8 : Int32) (v9 : Int32) (v11 : Int32) (hw : v_Pt_firstWrong_68 rec wrec fu lp wlp s v2 v3 v4 v5 v8 v9 v11) : X m_Pt_firstWrong (d + 6) 68 [some (.inr (.inr (some 3))), none, some (.inl v2), some (.inl v3), some (.inl v4), some (.inl v5), none, none, some (.inl v8), some (.inl v9), none, some (.inl v11)] [] (hp s) (qI (hp s) (b_Pt_firstWrong_68 rec fu lp s v2 v3 v4 v5 v8 v9 v11)) := by
  unfold b_Pt_firstWrong_68
  unfold v_Pt_firstWrong_68 at hw
  refine X_run 3 (i1 := cond (cn2 .ge v11 v8) 85 71) (L1 := [some (.inr (.inr (some 3))), none, some (.inl v2), some (.inl v3), some (.inl v4), some (.inl v5), none, none, some (.inl v8), some (.inl v9), none, some (.inl v11)]) (st1 := []) rfl ?_
  refine X_brq (fun hb => ?_) (fun hb => ?_)
  · have hw := hw.1 hb
    refine X_run 2 (i1 := 4) (L1 := [some (.inr (.inr (some 3))), none, some (.inl v2), some (.inl v3), some (.inl v4), some (.inl (v5 + Int32.ofInt (1))), none, none, some (.inl v8), some (.inl v9), none, some (.inl v11)]) (st1 := []) rfl ?_
    refine X_mask [true, true, true, true, true, true, true, true, false, false, true, false] ?_
    exact hlp.1 s v2 v3 v4 (v5 + Int32.ofInt (1)) hw
  · have hw := hw.2 hb
    refine X_run 7 (i1 := 78) (L1 := [some (.inr (.inr (some 3))), none, some (.inl v2), some (.inl v3), some (.inl v4), some (.inl v5), none, none, some (.inl v8), some (.inl v9), none, some (.inl v11)]) (st1 := [.inl ((v9 - v8) + v11), .inr (.inr (some 3)), .inl v4]) rfl ?_
    obtain ⟨hin, hw⟩ := hw
    refine X_aY rfl rfl hin ?_
    show X _ _ 79 [some (.inr (.inr (some 3))), none, some (.inl v2), some (.inl v3), some (.inl v4), some (.inl v5), none, none, some (.inl v8), some (.inl v9), none, some (.inl v11)] [.inl (sA s 3 (Int32.toNatClampNeg ((v9 - v8) + v11))), .inl v4] (hp s) _
    refine X_run 6 (i1 := 68) (L1 := [some (.inr (.inr (some 3))), none, some (.inl v2), some (.inl v3), some (.inl (v4 + ((sA s 3 (Int32.toNatClampNeg ((v9 - v8) + v11))) &&& (255 : Int32)))), some (.inl v5), none, none, some (.inl v8), some (.inl v9), none, some (.inl (v11 + Int32.ofInt (1)))]) (st1 := []) rfl ?_
    exact hlp.2.2.2 s v2 v3 (v4 + ((sA s 3 (Int32.toNatClampNeg ((v9 - v8) + v11))) &&& (255 : Int32))) v5 v8 v9 (v11 + Int32.ofInt (1)) hw
def T_Pt_firstWrong_4 (rec : G_fw) (fu : Nat) : Nat → LT_Pt_firstWrong_4
  | 0 => (fun _ _ _ _ _ => 0, fun _ _ _ _ _ _ _ _ => 0, fun _ _ _ _ _ _ _ => 0, fun _ _ _ _ _ _ _ _ => 0)
  | n + 1 => (fun s v2 v3 v4 v5 => b_Pt_firstWrong_4 rec fu (T_Pt_firstWrong_4 rec fu n) s v2 v3 v4 v5, fun s v2 v3 v4 v5 v7 v8 v9 => b_Pt_firstWrong_42 rec fu (T_Pt_firstWrong_4 rec fu n) s v2 v3 v4 v5 v7 v8 v9, fun s v2 v3 v5 v8 v9 v10 => b_Pt_firstWrong_59 rec fu (T_Pt_firstWrong_4 rec fu n) s v2 v3 v5 v8 v9 v10, fun s v2 v3 v4 v5 v8 v9 v11 => b_Pt_firstWrong_68 rec fu (T_Pt_firstWrong_4 rec fu n) s v2 v3 v4 v5 v8 v9 v11)
def WT_Pt_firstWrong_4 (rec : G_fw) (wrec : GW_fw) (fu : Nat) : Nat → LW_Pt_firstWrong_4
  | 0 => (fun _ _ _ _ _ => False, fun _ _ _ _ _ _ _ _ => False, fun _ _ _ _ _ _ _ => False, fun _ _ _ _ _ _ _ _ => False)
  | n + 1 => (fun s v2 v3 v4 v5 => v_Pt_firstWrong_4 rec wrec fu (T_Pt_firstWrong_4 rec fu n) (WT_Pt_firstWrong_4 rec wrec fu n) s v2 v3 v4 v5, fun s v2 v3 v4 v5 v7 v8 v9 => v_Pt_firstWrong_42 rec wrec fu (T_Pt_firstWrong_4 rec fu n) (WT_Pt_firstWrong_4 rec wrec fu n) s v2 v3 v4 v5 v7 v8 v9, fun s v2 v3 v5 v8 v9 v10 => v_Pt_firstWrong_59 rec wrec fu (T_Pt_firstWrong_4 rec fu n) (WT_Pt_firstWrong_4 rec wrec fu n) s v2 v3 v5 v8 v9 v10, fun s v2 v3 v4 v5 v8 v9 v11 => v_Pt_firstWrong_68 rec wrec fu (T_Pt_firstWrong_4 rec fu n) (WT_Pt_firstWrong_4 rec wrec fu n) s v2 v3 v4 v5 v8 v9 v11)
theorem cT_Pt_firstWrong_4 {d : Nat} {rec : G_fw} {wrec : GW_fw} (hrec : hr_fw (d + 5) rec wrec) (fu : Nat) : ∀ n : Nat, hl_Pt_firstWrong_4 (d + 6) (T_Pt_firstWrong_4 rec fu n) (WT_Pt_firstWrong_4 rec wrec fu n)
  | 0 => ⟨fun _ _ _ _ _ hw => hw.elim, fun _ _ _ _ _ _ _ _ hw => hw.elim, fun _ _ _ _ _ _ _ hw => hw.elim, fun _ _ _ _ _ _ _ _ hw => hw.elim⟩
  | n + 1 => ⟨fun s v2 v3 v4 v5 hw => cb_Pt_firstWrong_4 hrec fu (cT_Pt_firstWrong_4 hrec fu n) s v2 v3 v4 v5 hw, fun s v2 v3 v4 v5 v7 v8 v9 hw => cb_Pt_firstWrong_42 hrec fu (cT_Pt_firstWrong_4 hrec fu n) s v2 v3 v4 v5 v7 v8 v9 hw, fun s v2 v3 v5 v8 v9 v10 hw => cb_Pt_firstWrong_59 hrec fu (cT_Pt_firstWrong_4 hrec fu n) s v2 v3 v5 v8 v9 v10 hw, fun s v2 v3 v4 v5 v8 v9 v11 hw => cb_Pt_firstWrong_68 hrec fu (cT_Pt_firstWrong_4 hrec fu n) s v2 v3 v4 v5 v8 v9 v11 hw⟩
def f_Pt_firstWrong (rec : G_fw) (fu : Nat) (s : St) (a1 : Int32) (a2 : Int32) (a3 : Int32) : Int32 := ((T_Pt_firstWrong_4 rec fu fu).1 s a2 a3 a1 (0 : Int32))
def w_Pt_firstWrong (rec : G_fw) (wrec : GW_fw) (fu : Nat) (s : St) (a1 : Int32) (a2 : Int32) (a3 : Int32) : Prop := ((WT_Pt_firstWrong_4 rec wrec fu fu).1 s a2 a3 a1 (0 : Int32))
theorem c_Pt_firstWrong {d : Nat} {rec : G_fw} {wrec : GW_fw} (hrec : hr_fw (d + 5) rec wrec) (fu : Nat) (s : St) (a1 : Int32) (a2 : Int32) (a3 : Int32) (hw : w_Pt_firstWrong rec wrec fu s a1 a2 a3) : X m_Pt_firstWrong (d + 6) 0 (entL 12 [.inr (.inr (some 3)), .inl a1, .inl a2, .inl a3]) [] (hp s) (qI (hp s) (f_Pt_firstWrong rec fu s a1 a2 a3)) := by
  unfold f_Pt_firstWrong
  unfold w_Pt_firstWrong at hw
  refine X_run 4 (i1 := 4) (L1 := [some (.inr (.inr (some 3))), some (.inl a1), some (.inl a2), some (.inl a3), some (.inl a1), some (.inl (0 : Int32)), none, none, none, none, none, none]) (st1 := []) rfl ?_
  refine X_mask [true, false, true, true, true, true, true, true, true, true, true, true] ?_
  exact (cT_Pt_firstWrong_4 hrec fu fu).1 s a2 a3 a1 (0 : Int32) hw
def t_Pt_wrongPart_34 (rec : G_fw) (fu : Nat) : Nat → St → Int32 → Int32 → Int32 → Int32 → Int32 → Int32
  | 0, _, _, _, _, _, _ => 0
  | n + 1, s, v3, v4, v5, v7, v8 => (cond (cn2 .ge v8 v3) (-1 : Int32) (cond (cn2 .eq (rec.1 s v7 (v7 + ((sA s 3 (Int32.toNatClampNeg (v5 + v8))) &&& (255 : Int32))) (v4 + (1 : Int32))) (-1 : Int32)) (t_Pt_wrongPart_34 rec fu n s v3 v4 v5 (v7 + ((sA s 3 (Int32.toNatClampNeg (v5 + v8))) &&& (255 : Int32))) (v8 + Int32.ofInt (1))) (rec.1 s v7 (v7 + ((sA s 3 (Int32.toNatClampNeg (v5 + v8))) &&& (255 : Int32))) (v4 + (1 : Int32)))))
def w_Pt_wrongPart_34 (rec : G_fw) (wrec : GW_fw) (fu : Nat) : Nat → St → Int32 → Int32 → Int32 → Int32 → Int32 → Prop
  | 0, _, _, _, _, _, _ => False
  | n + 1, s, v3, v4, v5, v7, v8 => ((cn2 .ge v8 v3) = true → True) ∧ ((cn2 .ge v8 v3) = false → (vp_in (v5 + v8) 2000 ∧ (wrec.1 s v7 (v7 + ((sA s 3 (Int32.toNatClampNeg (v5 + v8))) &&& (255 : Int32))) (v4 + (1 : Int32)) ∧ ((cn2 .eq (rec.1 s v7 (v7 + ((sA s 3 (Int32.toNatClampNeg (v5 + v8))) &&& (255 : Int32))) (v4 + (1 : Int32))) (-1 : Int32)) = true → (w_Pt_wrongPart_34 rec wrec fu n s v3 v4 v5 (v7 + ((sA s 3 (Int32.toNatClampNeg (v5 + v8))) &&& (255 : Int32))) (v8 + Int32.ofInt (1)))) ∧ ((cn2 .eq (rec.1 s v7 (v7 + ((sA s 3 (Int32.toNatClampNeg (v5 + v8))) &&& (255 : Int32))) (v4 + (1 : Int32))) (-1 : Int32)) = false → True))))
theorem ct_Pt_wrongPart_34 {d : Nat} {rec : G_fw} {wrec : GW_fw} (hrec : hr_fw (d + 5) rec wrec) (fu : Nat) : ∀ (n : Nat) (s : St) (v3 : Int32) (v4 : Int32) (v5 : Int32) (v7 : Int32) (v8 : Int32), w_Pt_wrongPart_34 rec wrec fu n s v3 v4 v5 v7 v8 → X m_Pt_wrongPart (d + 6) 34 [some (.inr (.inr (some 3))), none, none, some (.inl v3), some (.inl v4), some (.inl v5), none, some (.inl v7), some (.inl v8), none, none] [] (hp s) (qI (hp s) (t_Pt_wrongPart_34 rec fu n s v3 v4 v5 v7 v8))
  | 0, s, v3, v4, v5, v7, v8, hw => hw.elim
  | n + 1, s, v3, v4, v5, v7, v8, hw => by
    have ih := @ct_Pt_wrongPart_34 d rec wrec hrec fu n
    unfold t_Pt_wrongPart_34
    unfold w_Pt_wrongPart_34 at hw
    refine X_run 3 (i1 := cond (cn2 .ge v8 v3) 64 37) (L1 := [some (.inr (.inr (some 3))), none, none, some (.inl v3), some (.inl v4), some (.inl v5), none, some (.inl v7), some (.inl v8), none, none]) (st1 := []) rfl ?_
    refine X_brq (fun hb => ?_) (fun hb => ?_)
    · skip
      refine X_run 1 (i1 := 65) (L1 := [some (.inr (.inr (some 3))), none, none, some (.inl v3), some (.inl v4), some (.inl v5), none, some (.inl v7), some (.inl v8), none, none]) (st1 := [.inl (-1 : Int32)]) rfl ?_
      exact X_iret rfl rfl qI_i
    · have hw := hw.2 hb
      refine X_run 5 (i1 := 42) (L1 := [some (.inr (.inr (some 3))), none, none, some (.inl v3), some (.inl v4), some (.inl v5), none, some (.inl v7), some (.inl v8), none, none]) (st1 := [.inl (v5 + v8), .inr (.inr (some 3)), .inl v7]) rfl ?_
      obtain ⟨hin, hw⟩ := hw
      refine X_aY rfl rfl hin ?_
      show X _ _ 43 [some (.inr (.inr (some 3))), none, none, some (.inl v3), some (.inl v4), some (.inl v5), none, some (.inl v7), some (.inl v8), none, none] [.inl (sA s 3 (Int32.toNatClampNeg (v5 + v8))), .inl v7] (hp s) _
      refine X_run 10 (i1 := 53) (L1 := [some (.inr (.inr (some 3))), none, none, some (.inl v3), some (.inl v4), some (.inl v5), none, some (.inl v7), some (.inl v8), some (.inl (v7 + ((sA s 3 (Int32.toNatClampNeg (v5 + v8))) &&& (255 : Int32)))), none]) (st1 := [.inl (v4 + (1 : Int32)), .inl (v7 + ((sA s 3 (Int32.toNatClampNeg (v5 + v8))) &&& (255 : Int32))), .inl v7, .inr (.inr (some 3))]) rfl ?_
      obtain ⟨hc, hw⟩ := hw
      refine X_calls m_Pt_firstWrong (As := [.inr (.inr (some 3)), .inl v7, .inl (v7 + ((sA s 3 (Int32.toNatClampNeg (v5 + v8))) &&& (255 : Int32))), .inl (v4 + (1 : Int32))]) (st := []) ok_Pt_firstWrong rfl rfl rfl (Nat.le_of_ble_eq_true rfl) (Nat.le_of_ble_eq_true rfl) (hrec.1 s v7 (v7 + ((sA s 3 (Int32.toNatClampNeg (v5 + v8))) &&& (255 : Int32))) (v4 + (1 : Int32)) hc) ?_
      rintro _ _ ⟨rfl, rfl⟩
      show X _ _ 54 [some (.inr (.inr (some 3))), none, none, some (.inl v3), some (.inl v4), some (.inl v5), none, some (.inl v7), some (.inl v8), some (.inl (v7 + ((sA s 3 (Int32.toNatClampNeg (v5 + v8))) &&& (255 : Int32)))), none] [.inl (rec.1 s v7 (v7 + ((sA s 3 (Int32.toNatClampNeg (v5 + v8))) &&& (255 : Int32))) (v4 + (1 : Int32)))] (hp s) _
      refine X_run 4 (i1 := cond (cn2 .eq (rec.1 s v7 (v7 + ((sA s 3 (Int32.toNatClampNeg (v5 + v8))) &&& (255 : Int32))) (v4 + (1 : Int32))) (-1 : Int32)) 60 58) (L1 := [some (.inr (.inr (some 3))), none, none, some (.inl v3), some (.inl v4), some (.inl v5), none, some (.inl v7), some (.inl v8), some (.inl (v7 + ((sA s 3 (Int32.toNatClampNeg (v5 + v8))) &&& (255 : Int32)))), some (.inl (rec.1 s v7 (v7 + ((sA s 3 (Int32.toNatClampNeg (v5 + v8))) &&& (255 : Int32))) (v4 + (1 : Int32))))]) (st1 := []) rfl ?_
      refine X_brq (fun hb => ?_) (fun hb => ?_)
      · have hw := hw.1 hb
        refine X_run 4 (i1 := 34) (L1 := [some (.inr (.inr (some 3))), none, none, some (.inl v3), some (.inl v4), some (.inl v5), none, some (.inl (v7 + ((sA s 3 (Int32.toNatClampNeg (v5 + v8))) &&& (255 : Int32)))), some (.inl (v8 + Int32.ofInt (1))), some (.inl (v7 + ((sA s 3 (Int32.toNatClampNeg (v5 + v8))) &&& (255 : Int32)))), some (.inl (rec.1 s v7 (v7 + ((sA s 3 (Int32.toNatClampNeg (v5 + v8))) &&& (255 : Int32))) (v4 + (1 : Int32))))]) (st1 := []) rfl ?_
        refine X_mask [true, true, true, true, true, true, true, true, true, false, false] ?_
        exact ih s v3 v4 v5 (v7 + ((sA s 3 (Int32.toNatClampNeg (v5 + v8))) &&& (255 : Int32))) (v8 + Int32.ofInt (1)) hw
      · skip
        refine X_run 1 (i1 := 59) (L1 := [some (.inr (.inr (some 3))), none, none, some (.inl v3), some (.inl v4), some (.inl v5), none, some (.inl v7), some (.inl v8), some (.inl (v7 + ((sA s 3 (Int32.toNatClampNeg (v5 + v8))) &&& (255 : Int32)))), some (.inl (rec.1 s v7 (v7 + ((sA s 3 (Int32.toNatClampNeg (v5 + v8))) &&& (255 : Int32))) (v4 + (1 : Int32))))]) (st1 := [.inl (rec.1 s v7 (v7 + ((sA s 3 (Int32.toNatClampNeg (v5 + v8))) &&& (255 : Int32))) (v4 + (1 : Int32)))]) rfl ?_
        exact X_iret rfl rfl qI_i
def t_Pt_wrongPart_8 (rec : G_fw) (fu : Nat) : Nat → St → Int32 → Int32 → Int32 → Int32 → Int32 → Int32 → Int32 → Int32
  | 0, _, _, _, _, _, _, _, _ => 0
  | n + 1, s, v1, v2, v3, v4, v5, v6, v7 => (cond (cn2 .ge v7 v3) (t_Pt_wrongPart_34 rec fu fu s v3 v4 v5 v1 (0 : Int32)) (cond (cn2 .le (v6 + ((sA s 3 (Int32.toNatClampNeg (v5 + v7))) &&& (255 : Int32))) v2) (t_Pt_wrongPart_8 rec fu n s v1 v2 v3 v4 v5 (v6 + ((sA s 3 (Int32.toNatClampNeg (v5 + v7))) &&& (255 : Int32))) (v7 + Int32.ofInt (1))) (v5 + v7)))
def w_Pt_wrongPart_8 (rec : G_fw) (wrec : GW_fw) (fu : Nat) : Nat → St → Int32 → Int32 → Int32 → Int32 → Int32 → Int32 → Int32 → Prop
  | 0, _, _, _, _, _, _, _, _ => False
  | n + 1, s, v1, v2, v3, v4, v5, v6, v7 => ((cn2 .ge v7 v3) = true → (w_Pt_wrongPart_34 rec wrec fu fu s v3 v4 v5 v1 (0 : Int32))) ∧ ((cn2 .ge v7 v3) = false → (vp_in (v5 + v7) 2000 ∧ ((cn2 .le (v6 + ((sA s 3 (Int32.toNatClampNeg (v5 + v7))) &&& (255 : Int32))) v2) = true → (w_Pt_wrongPart_8 rec wrec fu n s v1 v2 v3 v4 v5 (v6 + ((sA s 3 (Int32.toNatClampNeg (v5 + v7))) &&& (255 : Int32))) (v7 + Int32.ofInt (1)))) ∧ ((cn2 .le (v6 + ((sA s 3 (Int32.toNatClampNeg (v5 + v7))) &&& (255 : Int32))) v2) = false → True)))
theorem ct_Pt_wrongPart_8 {d : Nat} {rec : G_fw} {wrec : GW_fw} (hrec : hr_fw (d + 5) rec wrec) (fu : Nat) : ∀ (n : Nat) (s : St) (v1 : Int32) (v2 : Int32) (v3 : Int32) (v4 : Int32) (v5 : Int32) (v6 : Int32) (v7 : Int32), w_Pt_wrongPart_8 rec wrec fu n s v1 v2 v3 v4 v5 v6 v7 → X m_Pt_wrongPart (d + 6) 8 [some (.inr (.inr (some 3))), some (.inl v1), some (.inl v2), some (.inl v3), some (.inl v4), some (.inl v5), some (.inl v6), some (.inl v7), none, none, none] [] (hp s) (qI (hp s) (t_Pt_wrongPart_8 rec fu n s v1 v2 v3 v4 v5 v6 v7))
  | 0, s, v1, v2, v3, v4, v5, v6, v7, hw => hw.elim
  | n + 1, s, v1, v2, v3, v4, v5, v6, v7, hw => by
    have ih := @ct_Pt_wrongPart_8 d rec wrec hrec fu n
    unfold t_Pt_wrongPart_8
    unfold w_Pt_wrongPart_8 at hw
    refine X_run 3 (i1 := cond (cn2 .ge v7 v3) 30 11) (L1 := [some (.inr (.inr (some 3))), some (.inl v1), some (.inl v2), some (.inl v3), some (.inl v4), some (.inl v5), some (.inl v6), some (.inl v7), none, none, none]) (st1 := []) rfl ?_
    refine X_brq (fun hb => ?_) (fun hb => ?_)
    · have hw := hw.1 hb
      refine X_run 4 (i1 := 34) (L1 := [some (.inr (.inr (some 3))), some (.inl v1), some (.inl v2), some (.inl v3), some (.inl v4), some (.inl v5), some (.inl v6), some (.inl v1), some (.inl (0 : Int32)), none, none]) (st1 := []) rfl ?_
      refine X_mask [true, false, false, true, true, true, false, true, true, true, true] ?_
      exact ct_Pt_wrongPart_34 hrec fu fu s v3 v4 v5 v1 (0 : Int32) hw
    · have hw := hw.2 hb
      refine X_run 5 (i1 := 16) (L1 := [some (.inr (.inr (some 3))), some (.inl v1), some (.inl v2), some (.inl v3), some (.inl v4), some (.inl v5), some (.inl v6), some (.inl v7), none, none, none]) (st1 := [.inl (v5 + v7), .inr (.inr (some 3)), .inl v6]) rfl ?_
      obtain ⟨hin, hw⟩ := hw
      refine X_aY rfl rfl hin ?_
      show X _ _ 17 [some (.inr (.inr (some 3))), some (.inl v1), some (.inl v2), some (.inl v3), some (.inl v4), some (.inl v5), some (.inl v6), some (.inl v7), none, none, none] [.inl (sA s 3 (Int32.toNatClampNeg (v5 + v7))), .inl v6] (hp s) _
      refine X_run 7 (i1 := cond (cn2 .le (v6 + ((sA s 3 (Int32.toNatClampNeg (v5 + v7))) &&& (255 : Int32))) v2) 28 24) (L1 := [some (.inr (.inr (some 3))), some (.inl v1), some (.inl v2), some (.inl v3), some (.inl v4), some (.inl v5), some (.inl (v6 + ((sA s 3 (Int32.toNatClampNeg (v5 + v7))) &&& (255 : Int32)))), some (.inl v7), none, none, none]) (st1 := []) rfl ?_
      refine X_brq (fun hb => ?_) (fun hb => ?_)
      · have hw := hw.1 hb
        refine X_run 2 (i1 := 8) (L1 := [some (.inr (.inr (some 3))), some (.inl v1), some (.inl v2), some (.inl v3), some (.inl v4), some (.inl v5), some (.inl (v6 + ((sA s 3 (Int32.toNatClampNeg (v5 + v7))) &&& (255 : Int32)))), some (.inl (v7 + Int32.ofInt (1))), none, none, none]) (st1 := []) rfl ?_
        exact ih s v1 v2 v3 v4 v5 (v6 + ((sA s 3 (Int32.toNatClampNeg (v5 + v7))) &&& (255 : Int32))) (v7 + Int32.ofInt (1)) hw
      · skip
        refine X_run 3 (i1 := 27) (L1 := [some (.inr (.inr (some 3))), some (.inl v1), some (.inl v2), some (.inl v3), some (.inl v4), some (.inl v5), some (.inl (v6 + ((sA s 3 (Int32.toNatClampNeg (v5 + v7))) &&& (255 : Int32)))), some (.inl v7), none, none, none]) (st1 := [.inl (v5 + v7)]) rfl ?_
        exact X_iret rfl rfl qI_i
def f_Pt_wrongPart (rec : G_fw) (fu : Nat) (s : St) (a1 : Int32) (a2 : Int32) (a3 : Int32) (a4 : Int32) : Int32 := (t_Pt_wrongPart_8 rec fu fu s a1 a2 a3 a4 (a1 - a3) a1 (0 : Int32))
def w_Pt_wrongPart (rec : G_fw) (wrec : GW_fw) (fu : Nat) (s : St) (a1 : Int32) (a2 : Int32) (a3 : Int32) (a4 : Int32) : Prop := (w_Pt_wrongPart_8 rec wrec fu fu s a1 a2 a3 a4 (a1 - a3) a1 (0 : Int32))
theorem c_Pt_wrongPart {d : Nat} {rec : G_fw} {wrec : GW_fw} (hrec : hr_fw (d + 5) rec wrec) (fu : Nat) (s : St) (a1 : Int32) (a2 : Int32) (a3 : Int32) (a4 : Int32) (hw : w_Pt_wrongPart rec wrec fu s a1 a2 a3 a4) : X m_Pt_wrongPart (d + 6) 0 (entL 11 [.inr (.inr (some 3)), .inl a1, .inl a2, .inl a3, .inl a4]) [] (hp s) (qI (hp s) (f_Pt_wrongPart rec fu s a1 a2 a3 a4)) := by
  unfold f_Pt_wrongPart
  unfold w_Pt_wrongPart at hw
  refine X_run 8 (i1 := 8) (L1 := [some (.inr (.inr (some 3))), some (.inl a1), some (.inl a2), some (.inl a3), some (.inl a4), some (.inl (a1 - a3)), some (.inl a1), some (.inl (0 : Int32)), none, none, none]) (st1 := []) rfl ?_
  exact ct_Pt_wrongPart_8 hrec fu fu s a1 a2 a3 a4 (a1 - a3) a1 (0 : Int32) hw
def F_fw (fu : Nat) : Nat → G_fw
  | 0 => (fun _ _ _ _ => 0, fun _ _ _ _ _ => 0)
  | n + 1 => (fun s a1 a2 a3 => f_Pt_firstWrong (F_fw fu n) fu s a1 a2 a3, fun s a1 a2 a3 a4 => f_Pt_wrongPart (F_fw fu n) fu s a1 a2 a3 a4)
def W_fw (fu : Nat) : Nat → GW_fw
  | 0 => (fun _ _ _ _ => False, fun _ _ _ _ _ => False)
  | n + 1 => (fun s a1 a2 a3 => w_Pt_firstWrong (F_fw fu n) (W_fw fu n) fu s a1 a2 a3, fun s a1 a2 a3 a4 => w_Pt_wrongPart (F_fw fu n) (W_fw fu n) fu s a1 a2 a3 a4)
theorem cF_fw (fu : Nat) : ∀ (n d : Nat), hr_fw (d + n + 6) (F_fw fu n) (W_fw fu n)
  | 0, d => ⟨fun _ _ _ _ hw => hw.elim, fun _ _ _ _ _ hw => hw.elim⟩
  | n + 1, d => by
    have hrec : hr_fw (d + 1 + n + 6 - 1) (F_fw fu n) (W_fw fu n) := by
      have h := cF_fw fu n d
      rw [show d + 1 + n + 6 - 1 = d + n + 6 by omega]; exact h
    have e : d + (n + 1) + 6 = (d + 1 + n) + 6 := by omega
    rw [e]
    exact ⟨(fun s a1 a2 a3 hw => c_Pt_firstWrong (d := d + 1 + n) hrec fu s a1 a2 a3 hw), (fun s a1 a2 a3 a4 hw => c_Pt_wrongPart (d := d + 1 + n) hrec fu s a1 a2 a3 a4 hw)⟩
def f_Pt_take (fu : Nat) (s : St) (a0 : Int32) (a2 : Int32) : Int32 × St := (cond (cn2 .le a2 (200 : Int32)) (cond (cn2 .eq ((F_fw fu 24).1 s (0 : Int32) a2 (0 : Int32)) (-1 : Int32)) ((0 : Int32), pA (pA s 6 (va_cpy (sA s 3) (sA s 6) (Int32.toNatClampNeg (0 : Int32)) (Int32.toNatClampNeg (a0 * (200 : Int32))) (Int32.toNatClampNeg a2))) 7 (upd (sA s 7) (Int32.toNatClampNeg a0) a2)) ((1 : Int32) + ((F_fw fu 24).1 s (0 : Int32) a2 (0 : Int32)), s)) ((201 : Int32), s))
def w_Pt_take (fu : Nat) (s : St) (a0 : Int32) (a2 : Int32) : Prop := ((cn2 .le a2 (200 : Int32)) = true → ((W_fw fu 24).1 s (0 : Int32) a2 (0 : Int32) ∧ ((cn2 .eq ((F_fw fu 24).1 s (0 : Int32) a2 (0 : Int32)) (-1 : Int32)) = true → (cpok (0 : Int32) (a0 * (200 : Int32)) a2 2000 3200 ∧ (vp_in a0 16 ∧ True))) ∧ ((cn2 .eq ((F_fw fu 24).1 s (0 : Int32) a2 (0 : Int32)) (-1 : Int32)) = false → True))) ∧ ((cn2 .le a2 (200 : Int32)) = false → True)
theorem c_Pt_take {d : Nat} (fu : Nat) (s : St) (a0 : Int32) (a2 : Int32) (hw : w_Pt_take fu s a0 a2) : X m_Pt_take (d + 31) 0 (entL 5 [.inr (.inr (some 5)), .inl a0, .inr (.inr (some 3)), .inl a2]) [] (hp s) (qIs (f_Pt_take fu s a0 a2)) := by
  unfold f_Pt_take
  unfold w_Pt_take at hw
  refine X_run 3 (i1 := cond (cn2 .le a2 (200 : Int32)) 5 3) (L1 := [some (.inr (.inr (some 5))), some (.inl a0), some (.inr (.inr (some 3))), some (.inl a2), none]) (st1 := []) rfl ?_
  refine X_brq (fun hb => ?_) (fun hb => ?_)
  · have hw := hw.1 hb
    refine X_run 4 (i1 := 9) (L1 := [some (.inr (.inr (some 5))), some (.inl a0), some (.inr (.inr (some 3))), some (.inl a2), none]) (st1 := [.inl (0 : Int32), .inl a2, .inl (0 : Int32), .inr (.inr (some 3))]) rfl ?_
    obtain ⟨hc, hw⟩ := hw
    refine X_calls m_Pt_firstWrong (As := [.inr (.inr (some 3)), .inl (0 : Int32), .inl a2, .inl (0 : Int32)]) (st := []) ok_Pt_firstWrong rfl rfl rfl (Nat.le_of_ble_eq_true rfl) (Nat.le_of_ble_eq_true rfl) ((cF_fw fu 24 (d)).1 s (0 : Int32) a2 (0 : Int32) hc) ?_
    rintro _ _ ⟨rfl, rfl⟩
    show X _ _ 10 [some (.inr (.inr (some 5))), some (.inl a0), some (.inr (.inr (some 3))), some (.inl a2), none] [.inl ((F_fw fu 24).1 s (0 : Int32) a2 (0 : Int32))] (hp s) _
    refine X_run 4 (i1 := cond (cn2 .eq ((F_fw fu 24).1 s (0 : Int32) a2 (0 : Int32)) (-1 : Int32)) 18 14) (L1 := [some (.inr (.inr (some 5))), some (.inl a0), some (.inr (.inr (some 3))), some (.inl a2), some (.inl ((F_fw fu 24).1 s (0 : Int32) a2 (0 : Int32)))]) (st1 := []) rfl ?_
    refine X_brq (fun hb => ?_) (fun hb => ?_)
    · have hw := hw.1 hb
      refine X_run 3 (i1 := 21) (L1 := [some (.inr (.inr (some 5))), some (.inl a0), some (.inr (.inr (some 3))), some (.inl a2), some (.inl ((F_fw fu 24).1 s (0 : Int32) a2 (0 : Int32)))]) (st1 := [.inr (.inr (some 5)), .inl (0 : Int32), .inr (.inr (some 3))]) rfl ?_
      refine X_gF (v := .inr (.inr (some 6))) rfl rfl rfl rfl ?_
      refine X_run 4 (i1 := 26) (L1 := [some (.inr (.inr (some 5))), some (.inl a0), some (.inr (.inr (some 3))), some (.inl a2), some (.inl ((F_fw fu 24).1 s (0 : Int32) a2 (0 : Int32)))]) (st1 := [.inl a2, .inl (a0 * (200 : Int32)), .inr (.inr (some 6)), .inl (0 : Int32), .inr (.inr (some 3))]) rfl ?_
      obtain ⟨hc, hw⟩ := hw
      refine X_fcopy rfl (Nat.le_of_ble_eq_true rfl) rfl rfl hc ?_
      show X _ _ 27 [some (.inr (.inr (some 5))), some (.inl a0), some (.inr (.inr (some 3))), some (.inl a2), some (.inl ((F_fw fu 24).1 s (0 : Int32) a2 (0 : Int32)))] [] (hp (pA s 6 (va_cpy (sA s 3) (sA s 6) (Int32.toNatClampNeg (0 : Int32)) (Int32.toNatClampNeg (a0 * (200 : Int32))) (Int32.toNatClampNeg a2)))) _
      refine X_run 1 (i1 := 28) (L1 := [some (.inr (.inr (some 5))), some (.inl a0), some (.inr (.inr (some 3))), some (.inl a2), some (.inl ((F_fw fu 24).1 s (0 : Int32) a2 (0 : Int32)))]) (st1 := [.inr (.inr (some 5))]) rfl ?_
      refine X_gF (v := .inr (.inr (some 7))) rfl rfl rfl rfl ?_
      refine X_run 2 (i1 := 31) (L1 := [some (.inr (.inr (some 5))), some (.inl a0), some (.inr (.inr (some 3))), some (.inl a2), some (.inl ((F_fw fu 24).1 s (0 : Int32) a2 (0 : Int32)))]) (st1 := [.inl a2, .inl a0, .inr (.inr (some 7))]) rfl ?_
      obtain ⟨hin, hw⟩ := hw
      refine X_sI rfl rfl hin ?_
      show X _ _ 32 [some (.inr (.inr (some 5))), some (.inl a0), some (.inr (.inr (some 3))), some (.inl a2), some (.inl ((F_fw fu 24).1 s (0 : Int32) a2 (0 : Int32)))] [] (hp (pA (pA s 6 (va_cpy (sA s 3) (sA s 6) (Int32.toNatClampNeg (0 : Int32)) (Int32.toNatClampNeg (a0 * (200 : Int32))) (Int32.toNatClampNeg a2))) 7 (upd (sA s 7) (Int32.toNatClampNeg a0) a2))) _
      refine X_run 1 (i1 := 33) (L1 := [some (.inr (.inr (some 5))), some (.inl a0), some (.inr (.inr (some 3))), some (.inl a2), some (.inl ((F_fw fu 24).1 s (0 : Int32) a2 (0 : Int32)))]) (st1 := [.inl (0 : Int32)]) rfl ?_
      exact X_iret rfl rfl qIs_i
    · skip
      refine X_run 3 (i1 := 17) (L1 := [some (.inr (.inr (some 5))), some (.inl a0), some (.inr (.inr (some 3))), some (.inl a2), some (.inl ((F_fw fu 24).1 s (0 : Int32) a2 (0 : Int32)))]) (st1 := [.inl ((1 : Int32) + ((F_fw fu 24).1 s (0 : Int32) a2 (0 : Int32)))]) rfl ?_
      exact X_iret rfl rfl qIs_i
  · skip
    refine X_run 1 (i1 := 4) (L1 := [some (.inr (.inr (some 5))), some (.inl a0), some (.inr (.inr (some 3))), some (.inl a2), none]) (st1 := [.inl (201 : Int32)]) rfl ?_
    exact X_iret rfl rfl qIs_i
